/-! PURE PART: labels that are sought -/
def nq (A B : Nat → Int32) (i : Nat) : Bool := decide (A i ≠ B i)
theorem nq_f {A B : Nat → Int32} {i : Nat} (e : A i = B i) : ¬ nq A B i = true := by
  unfold nq; rw [decide_eq_true_eq]; exact fun z => z e
theorem nq_t {A B : Nat → Int32} {i : Nat} (e : ¬ A i = B i) : nq A B i = true := by
  unfold nq; rw [decide_eq_true_eq]; exact e
theorem c_sb {σ : Mem} {o o' L L' m : Nat} (h1 : ln (o + 1) = L) (h1' : L ≤ 600) (h2 : m ≤ L) (h3 : σ o 1 = ι m) (g1 : ln (o' + 1) = L') (g1' : L' ≤ 600) (g2 : m ≤ L') (g3 : σ o' 1 = ι m) : ∀ m' n i, i + m' = m → m' < n → (fX8_hasSameBytes_l15 o o' n (ι i) σ).bind (fun q15 => match q15 with | .inl r => some r | .inr q15 => some (1 : Int32)) = some (if ff (nq (σ (o + 1)) (σ (o' + 1))) i m' = none then ι 1 else ι 0) := by
  intro m
  induction m with
  | zero =>
    intro n i h hn
    obtain ⟨n, rfl⟩ : ∃ k, n = k + 1 := ⟨n - 1, by omega⟩
    rw [fX8_hasSameBytes_l15]
    rw [h3, if_pos (by rw [ι_le (by omega) (by omega)]; omega), ff, if_pos rfl]; rfl
  | succ m ih =>
    intro n i h hn
    obtain ⟨n, rfl⟩ : ∃ k, n = k + 1 := ⟨n - 1, by omega⟩
    rw [fX8_hasSameBytes_l15]
    rw [h3, if_neg (by rw [ι_le (by omega) (by omega)]; omega), c_byteAt h1 h1' h2 h3 (by omega), Option.bind_some, c_byteAt g1 g1' g2 g3 (by omega), Option.bind_some, ff, l_1, ι_add]
    by_cases e : σ (o + 1) i = σ (o' + 1) i
    · rw [if_pos e, if_neg (nq_f e)]
      exact ih n (i + 1) (by omega) (by omega)
    · rw [if_neg e, if_pos (nq_t e), if_neg (by simp)]; rfl
theorem c_same {σ : Mem} {o o' L L' m m' : Nat} (h1 : ln (o + 1) = L) (h1' : L ≤ 600) (h2 : m ≤ L) (h3 : σ o 1 = ι m) (g1 : ln (o' + 1) = L') (g1' : L' ≤ 600) (g2 : m' ≤ L') (g3 : σ o' 1 = ι m') : fX8_hasSameBytes o o' σ = some (if m = m' ∧ ff (nq (σ (o + 1)) (σ (o' + 1))) 0 m = none then ι 1 else ι 0) := by
  unfold fX8_hasSameBytes
  rw [h3, g3, ite_eq (by omega) (by omega)]
  by_cases e : m = m'
  · rw [if_pos e]
    subst e
    have := c_sb h1 h1' h2 h3 g1 g1' g2 g3 m FU 0 (by omega) (by unfold FU; omega)
    by_cases c : ff (nq (σ (o + 1)) (σ (o' + 1))) 0 m = none
    · rw [if_pos ⟨rfl, c⟩]; rw [if_pos c] at this; exact this
    · rw [if_neg (fun z => c z.2)]; rw [if_neg c] at this; exact this
  · rw [if_neg e, if_neg (fun z => e z.1)]; rfl
theorem r_ib {τ : Mem} {w : Nat} (hm : w ≤ 400) (h0 : τ 0 21 = ι w) : ∀ m' n i, i + m' = w → m' < n → ∃ z, fX12_isBuffer_l24 n (ι 1) (ι i) τ = some (if ff (nq (τ 10) (τ 7)) i m' = none then ι 1 else ι 0, z) := by
  intro m
  induction m with
  | zero =>
    intro n i h hn
    obtain ⟨n, rfl⟩ : ∃ k, n = k + 1 := ⟨n - 1, by omega⟩
    rw [fX12_isBuffer_l24]
    rw [h0, if_pos (by rw [ι_le (by omega) (by omega)]; omega), ff, if_pos rfl]; exact ⟨_, rfl⟩
  | succ m ih =>
    intro n i h hn
    obtain ⟨n, rfl⟩ : ∃ k, n = k + 1 := ⟨n - 1, by omega⟩
    rw [fX12_isBuffer_l24]
    rw [h0, if_neg (by rw [ι_le (by omega) (by omega)]; omega), if_neg (by decide)]
    simp (disch := omega) only [l_0, l_1, l_2, l_3, l_4, l_5, l_6, l_7, l_8, l_9, l_10, l_12, l_13, l_24, l_31, l_32, l_40, l_41, l_42, l_44, l_45, l_48, l_49, l_50, l_57, l_59, l_60, l_65, l_88, l_89, l_97, l_98, l_99, l_100, l_105, l_108, l_109, l_114, l_118, l_120, l_122, l_144, l_255, l_269, l_279, l_339, l_400, l_600, l_999, l_1000, l_2373, l_2712, ι_lt, ι_le, ι_eq, ι_add, ι_mul, ι_sub, ι_div, ι_n, ι_m1, m1_ι, m1_lt, m1_le, lt_m1, le_m1, m1_lt_m1, m1_le_m1, m1_add1, neg_ι1, ι_addm, ι_addn, Bool.false_eq_true, Nat.not_lt_zero, Nat.add_zero, Nat.zero_add, Nat.mul_zero, Nat.reduceMul, Nat.reduceAdd, Nat.reduceSub, Nat.reduceLT, Nat.reduceLeDiff, Nat.reduceEqDiff, Nat.reduceDiv, Nat.reduceBEq, Nat.reduceBNe, false_or, or_false, true_or, or_true, and_true, true_and, false_and, and_false, not_false_eq_true, not_true_eq_false, if_true, if_false, if_pos, if_neg, Option.bind_some, ite_false, ite_true, eq_self, reduceIte, lm_0, lm_1, lm_2, lm_3, lm_4, lm_5, lm_6, lm_7, lm_8, lm_9, lm_10, lm_11, lm_12, lm_13, lm_14, lm_15, lm_16, lm_17]
    rw [ff]
    by_cases e : τ 10 i = τ 7 i
    · rw [if_pos e, if_neg (nq_f e)]
      exact ih n (i + 1) (by omega) (by omega)
    · rw [if_neg e, if_pos (nq_t e), if_neg (by simp)]
      obtain ⟨n, rfl⟩ : ∃ k, n = k + 1 := ⟨n - 1, by omega⟩
      rw [fX12_isBuffer_l24, h0]
      by_cases c : ι w ≤ ι (i + 1)
      · rw [if_pos c]; exact ⟨_, rfl⟩
      · rw [if_neg c, if_pos (show ι 0 = (0 : Int32) from rfl)]; exact ⟨_, rfl⟩
theorem r_is {τ : Mem} {w : Nat} (hm : w ≤ 400) (h0 : τ 0 21 = ι w) : ∀ m' n i, i + m' = w → m' < n → ∃ z, fX12_isSought_l22 n (ι 1) (ι i) τ = some (if ff (nq (τ 10) (τ 16)) i m' = none then ι 1 else ι 0, z) := by
  intro m
  induction m with
  | zero =>
    intro n i h hn
    obtain ⟨n, rfl⟩ : ∃ k, n = k + 1 := ⟨n - 1, by omega⟩
    rw [fX12_isSought_l22]
    rw [h0, if_pos (by rw [ι_le (by omega) (by omega)]; omega), ff, if_pos rfl]; exact ⟨_, rfl⟩
  | succ m ih =>
    intro n i h hn
    obtain ⟨n, rfl⟩ : ∃ k, n = k + 1 := ⟨n - 1, by omega⟩
    rw [fX12_isSought_l22]
    rw [h0, if_neg (by rw [ι_le (by omega) (by omega)]; omega), if_neg (by decide)]
    simp (disch := omega) only [l_0, l_1, l_2, l_3, l_4, l_5, l_6, l_7, l_8, l_9, l_10, l_12, l_13, l_24, l_31, l_32, l_40, l_41, l_42, l_44, l_45, l_48, l_49, l_50, l_57, l_59, l_60, l_65, l_88, l_89, l_97, l_98, l_99, l_100, l_105, l_108, l_109, l_114, l_118, l_120, l_122, l_144, l_255, l_269, l_279, l_339, l_400, l_600, l_999, l_1000, l_2373, l_2712, ι_lt, ι_le, ι_eq, ι_add, ι_mul, ι_sub, ι_div, ι_n, ι_m1, m1_ι, m1_lt, m1_le, lt_m1, le_m1, m1_lt_m1, m1_le_m1, m1_add1, neg_ι1, ι_addm, ι_addn, Bool.false_eq_true, Nat.not_lt_zero, Nat.add_zero, Nat.zero_add, Nat.mul_zero, Nat.reduceMul, Nat.reduceAdd, Nat.reduceSub, Nat.reduceLT, Nat.reduceLeDiff, Nat.reduceEqDiff, Nat.reduceDiv, Nat.reduceBEq, Nat.reduceBNe, false_or, or_false, true_or, or_true, and_true, true_and, false_and, and_false, not_false_eq_true, not_true_eq_false, if_true, if_false, if_pos, if_neg, Option.bind_some, ite_false, ite_true, eq_self, reduceIte, lm_0, lm_1, lm_2, lm_3, lm_4, lm_5, lm_6, lm_7, lm_8, lm_9, lm_10, lm_11, lm_12, lm_13, lm_14, lm_15, lm_16, lm_17]
    rw [ff]
    by_cases e : τ 10 i = τ 16 i
    · rw [if_pos e, if_neg (nq_f e)]
      exact ih n (i + 1) (by omega) (by omega)
    · rw [if_neg e, if_pos (nq_t e), if_neg (by simp)]
      obtain ⟨n, rfl⟩ : ∃ k, n = k + 1 := ⟨n - 1, by omega⟩
      rw [fX12_isSought_l22, h0]
      by_cases c : ι w ≤ ι (i + 1)
      · rw [if_pos c]; exact ⟨_, rfl⟩
      · rw [if_neg c, if_pos (show ι 0 = (0 : Int32) from rfl)]; exact ⟨_, rfl⟩
theorem r_isBuffer {τ υ : Mem} {p m mb : Nat} (h : fX12_laysLabel (ι p) τ = some υ) (h0 : υ 0 21 = ι m) (hm : m ≤ 400) (hb : υ 0 12 = ι mb) (hmb : mb ≤ 600) : fX12_isBuffer (ι p) τ = some (if m = mb ∧ ff (nq (υ 10) (υ 7)) 0 m = none then ι 1 else ι 0, υ) := by
  unfold fX12_isBuffer fX12_isBuffer_j21
  rw [h, Option.bind_some, h0, hb, ite_eq (by omega) (by omega)]
  by_cases e : m = mb
  · rw [if_pos e]
    obtain ⟨z, a⟩ := r_ib hm h0 m FU 0 (by omega) (by unfold FU; omega)
    have a : fX12_isBuffer_l24 FU (1 : Int32) (0 : Int32) υ = _ := a
    rw [a, Option.bind_some]
    by_cases c : ff (nq (υ 10) (υ 7)) 0 m = none
    · have g : (if m = mb ∧ ff (nq (υ 10) (υ 7)) 0 m = none then ι 1 else ι 0) = ι 1 := if_pos ⟨e, c⟩
      rw [if_pos c, g]
      exact if_pos (Or.inr rfl)
    · have g : (if m = mb ∧ ff (nq (υ 10) (υ 7)) 0 m = none then ι 1 else ι 0) = ι 0 := if_neg (fun z => c z.2)
      rw [if_neg c, g]
      exact if_pos (Or.inl rfl)
  · rw [if_neg e, if_neg (fun z => e z.1)]
    rw [show FU = 4095 + 1 from rfl, fX12_isBuffer_l24, h0]
    by_cases c : ι m ≤ (0 : Int32)
    · rw [if_pos c, Option.bind_some]; exact if_pos (Or.inl rfl)
    · rw [if_neg c, if_pos rfl, Option.bind_some]; exact if_pos (Or.inl rfl)
theorem r_isSought {τ υ : Mem} {p m mb : Nat} (h : fX12_laysLabel (ι p) τ = some υ) (h0 : υ 0 21 = ι m) (hm : m ≤ 400) (hmb : mb ≤ 600) : fX12_isSought (ι p) (ι mb) τ = some (if m = mb ∧ ff (nq (υ 10) (υ 16)) 0 m = none then ι 1 else ι 0, υ) := by
  unfold fX12_isSought fX12_isSought_j18
  rw [h, Option.bind_some, h0, ite_eq (by omega) (by omega)]
  by_cases e : m = mb
  · rw [if_pos e]
    obtain ⟨z, a⟩ := r_is hm h0 m FU 0 (by omega) (by unfold FU; omega)
    have a : fX12_isSought_l22 FU (1 : Int32) (0 : Int32) υ = _ := a
    rw [a, Option.bind_some]
    by_cases c : ff (nq (υ 10) (υ 16)) 0 m = none
    · have g : (if m = mb ∧ ff (nq (υ 10) (υ 16)) 0 m = none then ι 1 else ι 0) = ι 1 := if_pos ⟨e, c⟩
      rw [if_pos c, g]
      exact if_pos (Or.inr rfl)
    · have g : (if m = mb ∧ ff (nq (υ 10) (υ 16)) 0 m = none then ι 1 else ι 0) = ι 0 := if_neg (fun z => c z.2)
      rw [if_neg c, g]
      exact if_pos (Or.inl rfl)
  · rw [if_neg e, if_neg (fun z => e z.1)]
    rw [show FU = 4095 + 1 from rfl, fX12_isSought_l22, h0]
    by_cases c : ι m ≤ (0 : Int32)
    · rw [if_pos c, Option.bind_some]; exact if_pos (Or.inl rfl)
    · rw [if_neg c, if_pos rfl, Option.bind_some]; exact if_pos (Or.inl rfl)
theorem sx_hi : ∀ b, b < 128 → (ι (b + 128)).toInt8.toInt32 < ι 0 := by decide +kernel
theorem sx_cmp {c b : Nat} (hc : c < 128) (hb : b < 256) : (ι c = sx b) = (ι c = ι b) := by
  unfold sx
  by_cases h : b < 128
  · rw [nar_0 b h]
  · have h1 := sx_hi (b - 128) (by omega)
    rw [show b - 128 + 128 = b by omega] at h1
    rw [(neg0 h1 (show c < 2147483648 by omega)).2.2.2, ι_eq (by omega) (by omega)]
    exact (eq_false (by omega)).symm
theorem buf_cmp {ρ υ : Mem} {w : List Nat} {m mb L : Nat} (hC : TC ρ 39 L w) (hT : TR υ w) (hI : IRm ρ υ mb) (e : w.length = mb) : ff (nq (ρ 40) (ρ 34)) 0 w.length = ff (nq (υ 10) (υ 7)) 0 w.length := by
  refine ff_congr _ _ fun i _ hi => ?_
  have hi : i < w.length := by omega
  obtain ⟨b, b1, b2, b3, b4⟩ := hI.2.2.2 i (by omega)
  obtain ⟨t1, t2⟩ := hT.2.2 i hi
  have t3 : ρ 40 i = ι (gt w i) := hC.2.2.2.2 i hi
  unfold nq
  rw [t1, t3, b3, b4]
  have := sx_cmp t2 b2
  congr 1
  rw [Ne, Ne, this]
theorem IRm_c {σ ρ τ υ : Mem} {m : Nat} (h : IRm σ τ m) (a1 : ρ 33 = σ 33) (a2 : ρ 34 = σ 34) (a3 : υ 0 12 = τ 0 12) (a4 : υ 7 = τ 7) : IRm ρ υ m := by
  unfold IRm at *; rw [a1, a2, a3, a4]; exact h
theorem find_sim {F q : Nat → Int32} {k n a b mb : Nat} {E : List En} : ∀ m n1 n2 p (σ τ : Mem), p + m = E.length → m < n1 → m < n2 → LX σ τ F q k n a b E → IRm σ τ mb → ∃ v ρ υ, (fX11_findLabel_l7 0 n1 (ι p) σ).bind (fun q7 => match q7 with | .inl r => some r | .inr q7 => some (.inr (-1 : Int32), q7.2)) = some (.inr v, ρ) ∧ (fX12_findLabel_l31 n2 (ι p) τ).bind (fun q31 => match q31 with | .inl r => some r | .inr q31 => some ((-1 : Int32), q31.2)) = some (v, υ) ∧ frT 39 σ ρ ∧ frW τ υ ∧ Tx ρ 39 := by
  intro m
  induction m with
  | zero =>
    intro n1 n2 p σ τ hp h1 h2 hX hI
    obtain ⟨n1, rfl⟩ : ∃ k, n1 = k + 1 := ⟨n1 - 1, by omega⟩
    obtain ⟨n2, rfl⟩ : ∃ k, n2 = k + 1 := ⟨n2 - 1, by omega⟩
    have hE := hX.2.2.2.2.2.1
    have oc := hX.2.2.2.1.1
    have ot := hX.2.2.2.2.2.2.2.2.2.2.2.1.1
    refine ⟨-1, σ, τ, ?_, ?_, frT_refl _ _, frW_refl _, hX.2.2.2.2.2.2.2.2.2.2.2.2.2.2⟩
    · rw [fX11_findLabel_l7]
      unfold fX2_size
      rw [Option.bind_some, Nat.zero_add, oc, if_pos (by rw [ι_le (by omega) (by omega)]; omega)]; rfl
    · rw [fX12_findLabel_l31, ot, if_pos (by rw [ι_le (by omega) (by omega)]; omega)]; rfl
  | succ m ih =>
    intro n1 n2 p σ τ hp h1 h2 hX hI
    obtain ⟨n1, rfl⟩ : ∃ k, n1 = k + 1 := ⟨n1 - 1, by omega⟩
    obtain ⟨n2, rfl⟩ : ∃ k, n2 = k + 1 := ⟨n2 - 1, by omega⟩
    have hE := hX.2.2.2.2.2.1
    have oc := hX.2.2.2.1.1
    have ot := hX.2.2.2.2.2.2.2.2.2.2.2.1.1
    obtain ⟨w, ρ, υ, a1, a2, a3, a4, a5, a6, a7, a8⟩ := place_sim (o := 39) hX (Or.inr (Or.inr rfl)) (show p < E.length by omega)
    have hI2 : IRm ρ υ mb := IRm_c hI (a6 33 (by omega) (by omega)) (a6 34 (by omega) (by omega)) (a7 0 12 (by omega)) (funext fun j => a7 7 j (by omega))
    have r1 := r_isBuffer a2 a4.2.1 a4.1 hI2.2.2.1 hI2.1
    have c1 := c_same (o := 39) (o' := 33) a3.1 a3.2.1 a3.2.2.1 a3.2.2.2.1 ln34 (by omega) hI2.1 hI2.2.1
    have hcm : (w.length = mb ∧ ff (nq (ρ (39 + 1)) (ρ (33 + 1))) 0 w.length = none) = (w.length = mb ∧ ff (nq (υ 10) (υ 7)) 0 w.length = none) := by
      refine propext (and_congr_right fun e => ?_)
      have := buf_cmp (m := 0) a3 a4 hI2 e
      rw [show (39 + 1 : Nat) = 40 from rfl, show (33 + 1 : Nat) = 34 from rfl, this]
    have c1 : fX8_hasSameBytes 39 33 ρ = some (if w.length = mb ∧ ff (nq (υ 10) (υ 7)) 0 w.length = none then ι 1 else ι 0) := by
      rw [c1]; simp only [hcm]
    rw [fX11_findLabel_l7, fX12_findLabel_l31, ot, if_neg (by rw [ι_le (by omega) (by omega)]; omega)]
    unfold fX2_size
    rw [Option.bind_some, Nat.zero_add, Nat.zero_add, Nat.zero_add, oc, if_neg (by rw [ι_le (by omega) (by omega)]; omega), a1, Option.bind_some, c1, Option.bind_some, r1, Option.bind_some]
    by_cases c : w.length = mb ∧ ff (nq (υ 10) (υ 7)) 0 w.length = none
    · rw [if_pos c, if_neg (by decide)]
      exact ⟨ι p, ρ, υ, rfl, (by dsimp only; rw [if_neg (by decide)]; rfl), a6, a7, TC_Tx a3⟩
    · rw [if_neg c, if_pos (by decide)]
      obtain ⟨v, ρ', υ', b1, b2, b3, b4, b5⟩ := ih n1 n2 (p + 1) ρ υ (by omega) (by omega) (by omega) a8 hI2
      refine ⟨v, ρ', υ', ?_, ?_, frT_trans a6 b3, frW_trans a7 b4, b5⟩
      · rw [l_1, ι_add]; exact b1
      · dsimp only; rw [if_pos (by decide), l_1, ι_add]; exact b2
theorem txt_Rel {σ τ ρ υ : Mem} (hR : Rel σ τ) (h1 : ∀ j, ¬ (37 ≤ j ∧ j ≤ 40) → ρ j = σ j) (h2 : ∀ k j, ¬ (k = 10 ∨ k = 16 ∨ (k = 0 ∧ j = 21)) → υ k j = τ k j) (h3 : Tx ρ 37) (h4 : Tx ρ 39) : Rel ρ υ := by
  have hR' := hR
  obtain ⟨k, n, hr, hC'⟩ := hR'
  refine Rel_parts hR (fun j hj => h1 j (by omega)) (fun k j hk => h2 k j (by omega)) ?_ ?_ h3 h4
  · exact IR_c hr.2.2.2.2.1 (h1 33 (by omega)) (h1 34 (by omega)) (h2 0 12 (by omega)) (funext fun j => h2 7 j (by omega))
  · exact FR_c hr.2.2.2.2.2.1 (h1 35 (by omega)) (h1 36 (by omega)) (h2 0 20 (by omega)) (funext fun j => h2 9 j (by omega))
theorem sim28 : Sim28 Rel := by
  intro σ τ x1 hR
  replace hR := Rel_0 hR 0
  unfold fX12_findLabel fX11_findLabel
  have h00 : up τ 0 0 0 0 0 = 0 := up_e _ _ _ _
  generalize up τ 0 0 (0 : Int32) = τ at *
  obtain ⟨k, n, a, b, d, t, hO⟩ := RO_of hR
  obtain ⟨ρ, υ, e1, e2, hO2, oc, ot, f1, f2⟩ := ord_RO hO
  have hL := ordE_len (F := τ 3) hO.1.1.2.2.2.2 hO.2.1.2.1 hO.2.1.2.2.1
  have hR2 := RO_rel hO2
  have u0 : υ 0 0 = 0 := (f2 0 0 (by omega)).trans h00
  have e10 : ¬ (ι 1 = (0 : Int32)) := by decide
  have hX := LX_of hO2 (by rw [fr8_3 f2]) oc ot
  rw [e2, Option.bind_some, ot.1]
  rcases leaf_cases x1 ((ordE (τ 3) n a).length + 1) with ⟨i, hi, rfl⟩ | hx
  · obtain ⟨mb, hI⟩ := hO2.1.2.2.2.2.1
    obtain ⟨v, ρ', υ', b1, b2, b3, b4, b5⟩ := find_sim (mb := mb) ((ordE (τ 3) n a).length - i) FU FU i ρ υ (by omega) (by unfold FU; omega) (by unfold FU; omega) hX hI
    rw [r_inC (by omega) (by omega), Option.bind_some, if_neg e10, c_reqStart e1 hL oc (by omega), Option.bind_some]
    exact ⟨_, _, 0, b1, b2, Or.inl ⟨_, rfl, rfl⟩, fun v hv => (by cases hv; rfl), z_ok ((b4 0 0 (by omega)).trans u0), txt_Rel hR2 (fun j hj => b3 j (by omega) (by omega)) (fun k j hk => b4 k j (by omega)) (Tx_c hO2.1.2.2.2.2.2.2.1 (b3 37 (by omega) (by omega))) b5⟩
  · rw [c_reqStart_no e1 hL oc hx, r_inC_no (by omega) hx]
    simp only [Option.bind_some, l_0, if_true, ref_fails]
    exact ⟨_, _, 1, rfl, rfl, Or.inr ⟨rfl, rfl⟩, fun v hv => (by cases hv), z_bad, Rel_0 hR2 _⟩
theorem r_cp {l : List Nat} (hl : l.length ≤ 400) : ∀ m n i (τ : Mem), i + m = l.length → m < n → TR τ l → (∀ j, j < i → τ 16 j = ι (gt l j)) → ∃ z υ, fX12_sameLabels_l31 (ι l.length) n (ι i) τ = some (z, υ) ∧ (∀ j, j < l.length → υ 16 j = ι (gt l j)) ∧ ∀ k j, k ≠ 16 → υ k j = τ k j := by
  intro m
  induction m with
  | zero =>
    intro n i τ h hn ht hj
    obtain ⟨n, rfl⟩ : ∃ k, n = k + 1 := ⟨n - 1, by omega⟩
    rw [fX12_sameLabels_l31]
    rw [if_pos (by rw [ι_le (by omega) (by omega)]; omega)]
    exact ⟨_, _, rfl, fun j hj' => hj j (by omega), fun _ _ _ => rfl⟩
  | succ m ih =>
    intro n i τ h hn ht hj
    obtain ⟨n, rfl⟩ : ∃ k, n = k + 1 := ⟨n - 1, by omega⟩
    rw [fX12_sameLabels_l31]
    obtain ⟨e1, e2⟩ := ht.2.2 i (by omega)
    have e0 := ht.2.1
    obtain ⟨z, υ, b1, b2, b3⟩ := ih n (i + 1) (up τ 16 i (ι (gt l i))) (by omega) (by omega) ⟨ht.1, by rw [up_k _ _ _ _ _ (by omega)]; exact e0, fun j hj => by rw [up_k _ _ _ _ _ (by omega)]; exact ht.2.2 j hj⟩ (fun j hj' => by
      by_cases e : j = i
      · rw [e, up_e]
      · rw [up_j _ _ _ _ _ e]; exact hj j (by omega))
    refine ⟨z, υ, ?_, b2, fun k j hk => by rw [b3 k j hk, up_k _ _ _ _ _ hk]⟩
    simp (disch := omega) only [l_0, l_1, l_2, l_3, l_4, l_5, l_6, l_7, l_8, l_9, l_10, l_12, l_13, l_24, l_31, l_32, l_40, l_41, l_42, l_44, l_45, l_48, l_49, l_50, l_57, l_59, l_60, l_65, l_88, l_89, l_97, l_98, l_99, l_100, l_105, l_108, l_109, l_114, l_118, l_120, l_122, l_144, l_255, l_269, l_279, l_339, l_400, l_600, l_999, l_1000, l_2373, l_2712, ι_lt, ι_le, ι_eq, ι_add, ι_mul, ι_sub, ι_div, ι_n, ι_m1, m1_ι, m1_lt, m1_le, lt_m1, le_m1, m1_lt_m1, m1_le_m1, m1_add1, neg_ι1, ι_addm, ι_addn, Bool.false_eq_true, Nat.not_lt_zero, Nat.add_zero, Nat.zero_add, Nat.mul_zero, Nat.reduceMul, Nat.reduceAdd, Nat.reduceSub, Nat.reduceLT, Nat.reduceLeDiff, Nat.reduceEqDiff, Nat.reduceDiv, Nat.reduceBEq, Nat.reduceBNe, false_or, or_false, true_or, or_true, and_true, true_and, false_and, and_false, not_false_eq_true, not_true_eq_false, if_true, if_false, if_pos, if_neg, Option.bind_some, ite_false, ite_true, eq_self, reduceIte, lm_0, lm_1, lm_2, lm_3, lm_4, lm_5, lm_6, lm_7, lm_8, lm_9, lm_10, lm_11, lm_12, lm_13, lm_14, lm_15, lm_16, lm_17, e1, nar_d e2]
    exact b1
def SO (τ : Mem) (l : List Nat) : Prop := ∀ j, j < l.length → τ 16 j = ι (gt l j)
theorem same_sim {F q : Nat → Int32} {k n a b L : Nat} {E : List En} {u : List Nat} (hu : u.length ≤ 15) : ∀ m n1 n2 p c (σ τ : Mem), p + m = E.length → m < n1 → m < n2 → LX σ τ F q k n a b E → TC σ 37 L u → SO τ u → ∃ v z z' ρ υ, fX11_sameLabels_l18 0 n1 (ι c) (ι p) σ = some (v, z, ρ) ∧ fX12_sameLabels_l59 (ι u.length) n2 (ι c) (ι p) τ = some (v, z', υ) ∧ frT 39 σ ρ ∧ frW τ υ ∧ Tx ρ 39 := by
  intro m
  induction m with
  | zero =>
    intro n1 n2 p c σ τ hp h1 h2 hX hT hS
    obtain ⟨n1, rfl⟩ : ∃ k, n1 = k + 1 := ⟨n1 - 1, by omega⟩
    obtain ⟨n2, rfl⟩ : ∃ k, n2 = k + 1 := ⟨n2 - 1, by omega⟩
    have hE := hX.2.2.2.2.2.1
    have oc := hX.2.2.2.1.1
    have ot := hX.2.2.2.2.2.2.2.2.2.2.2.1.1
    refine ⟨ι c, ι p, ι p, σ, τ, ?_, ?_, frT_refl _ _, frW_refl _, hX.2.2.2.2.2.2.2.2.2.2.2.2.2.2⟩
    · rw [fX11_sameLabels_l18]
      unfold fX2_size
      rw [Option.bind_some, Nat.zero_add, oc, if_pos (by rw [ι_le (by omega) (by omega)]; omega)]
    · rw [fX12_sameLabels_l59, ot, if_pos (by rw [ι_le (by omega) (by omega)]; omega)]
  | succ m ih =>
    intro n1 n2 p c σ τ hp h1 h2 hX hT hS
    obtain ⟨n1, rfl⟩ : ∃ k, n1 = k + 1 := ⟨n1 - 1, by omega⟩
    obtain ⟨n2, rfl⟩ : ∃ k, n2 = k + 1 := ⟨n2 - 1, by omega⟩
    have hE := hX.2.2.2.2.2.1
    have oc := hX.2.2.2.1.1
    have ot := hX.2.2.2.2.2.2.2.2.2.2.2.1.1
    obtain ⟨w, ρ, υ, a1, a2, a3, a4, a5, a6, a7, a8⟩ := place_sim (o := 39) hX (Or.inr (Or.inr rfl)) (show p < E.length by omega)
    have hT2 : TC ρ 37 L u := by
      obtain ⟨q1, q2, q3, q4, q5⟩ := hT
      have f37 : ρ 37 = σ 37 := a6 37 (by omega) (by omega)
      have f38 : ρ 38 = σ 38 := a6 38 (by omega) (by omega)
      exact ⟨q1, q2, q3, by rw [f37]; exact q4, fun i hi => (congrFun f38 i).trans (q5 i hi)⟩
    have hS2 : SO υ u := fun j hj => (a7 16 j (by omega)).trans (hS j hj)
    have r1 := r_isSought (mb := u.length) a2 a4.2.1 a4.1 (by omega)
    have c1 := c_same (o := 39) (o' := 37) a3.1 a3.2.1 a3.2.2.1 a3.2.2.2.1 hT2.1 hT2.2.1 hT2.2.2.1 hT2.2.2.2.1
    have hcm : (w.length = u.length ∧ ff (nq (ρ (39 + 1)) (ρ (37 + 1))) 0 w.length = none) = (w.length = u.length ∧ ff (nq (υ 10) (υ 16)) 0 w.length = none) := by
      refine propext (and_congr_right fun e => ?_)
      rw [ff_congr (P := nq (ρ (39 + 1)) (ρ (37 + 1))) (Q := nq (υ 10) (υ 16)) w.length 0 fun i _ hi => ?_]
      have hi : i < w.length := by omega
      unfold nq
      rw [a3.2.2.2.2 i hi, (a4.2.2 i hi).1, hT2.2.2.2.2 i (by omega), hS2 i (by omega)]
    have c1 : fX8_hasSameBytes 39 37 ρ = some (if w.length = u.length ∧ ff (nq (υ 10) (υ 16)) 0 w.length = none then ι 1 else ι 0) := by
      rw [c1]; simp only [hcm]
    rw [fX11_sameLabels_l18, fX12_sameLabels_l59, ot, if_neg (by rw [ι_le (by omega) (by omega)]; omega)]
    unfold fX2_size
    rw [Option.bind_some, Nat.zero_add, Nat.zero_add, Nat.zero_add, oc, if_neg (by rw [ι_le (by omega) (by omega)]; omega), a1, Option.bind_some, c1, Option.bind_some, r1, Option.bind_some, l_1, l_0, ι_add, ι_add, ι_add, Nat.add_zero]
    by_cases cc : w.length = u.length ∧ ff (nq (υ 10) (υ 16)) 0 w.length = none
    · rw [if_pos cc, if_neg (by decide)]
      obtain ⟨v, z, z', ρ', υ', b1, b2, b3, b4, b5⟩ := ih n1 n2 (p + 1) (c + 1) ρ υ (by omega) (by omega) (by omega) a8 hT2 hS2
      refine ⟨v, z, z', ρ', υ', b1, ?_, frT_trans a6 b3, frW_trans a7 b4, b5⟩
      dsimp only; rw [if_neg (by decide)]; exact b2
    · rw [if_neg cc, if_pos (by decide)]
      obtain ⟨v, z, z', ρ', υ', b1, b2, b3, b4, b5⟩ := ih n1 n2 (p + 1) c ρ υ (by omega) (by omega) (by omega) a8 hT2 hS2
      refine ⟨v, z, z', ρ', υ', b1, ?_, frT_trans a6 b3, frW_trans a7 b4, b5⟩
      dsimp only; rw [if_pos (by decide)]; exact b2
theorem sim29 : Sim29 Rel := by
  intro σ τ x1 hR
  replace hR := Rel_0 hR 0
  unfold fX12_sameLabels fX11_sameLabels
  have h00 : up τ 0 0 0 0 0 = 0 := up_e _ _ _ _
  generalize up τ 0 0 (0 : Int32) = τ at *
  obtain ⟨k, n, a, b, d, t, hO⟩ := RO_of hR
  obtain ⟨ρ, υ, e1, e2, hO2, oc, ot, f1, f2⟩ := ord_RO hO
  have hL := ordE_len (F := τ 3) hO.1.1.2.2.2.2 hO.2.1.2.1 hO.2.1.2.2.1
  have hR2 := RO_rel hO2
  have u0 : υ 0 0 = 0 := (f2 0 0 (by omega)).trans h00
  have e10 : ¬ (ι 1 = (0 : Int32)) := by decide
  have hX := LX_of hO2 (by rw [fr8_3 f2]) oc ot
  rcases leaf_cases x1 (ordE (τ 3) n a).length with ⟨i, hi, rfl⟩ | hx
  · obtain ⟨w, ρ1, υ1, a1, a2, a3, a4, a5, a6, a7, a8⟩ := place_sim (o := 37) hX (Or.inr (Or.inl rfl)) hi
    obtain ⟨z, ω, b1, b2, b3⟩ := r_cp a4.1 w.length FU 0 υ1 (by omega) (by unfold FU; omega) a4 (fun j hj => absurd hj (Nat.not_lt_zero j))
    have b1 : fX12_sameLabels_l31 (ι w.length) FU (0 : Int32) υ1 = some (z, ω) := b1
    have hX2 : LX ρ1 ω _ _ _ _ _ _ _ := LX_c (o := 37) (ρ := ρ1) a8 (Or.inr (Or.inl rfl)) (frT_refl _ _) (TC_Tx a3) (fun k j hk => b3 k j (by omega))
    obtain ⟨v, z1, z2, ρ2, ω2, c1, c2, c3, c4, c5⟩ := same_sim a5 (ordE (τ 3) n a).length FU FU 0 0 ρ1 ω (by omega) (by unfold FU; omega) (by unfold FU; omega) hX2 a3 b2
    have c1 : fX11_sameLabels_l18 0 FU (0 : Int32) (0 : Int32) ρ1 = some (v, z1, ρ2) := c1
    have c2 : fX12_sameLabels_l59 (ι w.length) FU (0 : Int32) (0 : Int32) ω = some (v, z2, ω2) := c2
    simp only [c_reqPlace e1 hL oc hi, r_isPlace e2 hL ot hi, if_neg e10, Option.bind_some, Nat.zero_add, a1, a2, a4.2.1, b1, c1, c2]
    refine ⟨_, _, 0, rfl, rfl, Or.inl ⟨_, rfl, rfl⟩, fun v hv => (by cases hv; rfl), ?_, txt_Rel hR2 (fun j hj => (c3 j (by omega) (by omega)).trans (a6 j (by omega) (by omega))) (fun k j hk => (c4 k j (by omega)).trans ((b3 k j (by omega)).trans (a7 k j (by omega)))) (Tx_c (TC_Tx a3) (c3 37 (by omega) (by omega))) c5⟩
    show ω2 0 0 = 0
    rw [c4 0 0 (by omega), b3 0 0 (by omega), a7 0 0 (by omega)]; exact u0
  · rw [c_reqPlace_no e1 hL oc hx, r_isPlace_no e2 hL ot hx]
    simp only [Option.bind_some, l_0, if_true, ref_fails]
    exact ⟨_, _, 1, rfl, rfl, Or.inr ⟨rfl, rfl⟩, fun v hv => (by cases hv), z_bad, Rel_0 hR2 _⟩

/-! PURE PART: the collation -/
theorem sm_mono (f : Nat → Nat) {x y : Nat} (h : x ≤ y) : sm f 0 x ≤ sm f 0 y := by
  induction y with
  | zero => have e : x = 0 := by omega
            rw [e]; exact Nat.le_refl _
  | succ y ih =>
    by_cases e : x = y + 1
    · rw [e]; exact Nat.le_refl _
    · rw [sm_last]
      have := ih (by omega)
      omega
theorem q_end {q : Nat → Int32} {k n x : Nat} (hQ : QI q k n) (hx : x < k) : sm (qN q) 0 x + qN q x ≤ n := by
  have h := sm_last (qN q) x 0
  rw [Nat.zero_add] at h
  have := sm_mono (qN q) (show x + 1 ≤ k by omega)
  rw [hQ.2.2.2.1] at this
  omega
theorem VR_t {σ ρ : Mem} {q F : Nat → Int32} {k n a : Nat} (hn : n ≤ 60) (ha : a ≤ 12) (hV : VR σ 42 q k n a F) (h : frT 35 σ ρ) : VR ρ 42 q k n a F := VR_c hn ha hV (fun j hj => h _ (by omega) (by omega)) (fun _ _ => rfl)
def cz (c : Nat) : Nat := if c = 0 then 2 else 1
def cy (c : Nat) : Nat := if c = 0 then 0 else 1
theorem miss_sim {F qf : Nat → Int32} {k n a q : Nat} (hQ : QI qf k n) (ha : a ≤ 12) (hq : q < k) : ∀ m n1 n2 c i (σ τ : Mem) l, i + m = qN qf q → m < n1 → m < n2 → c ≤ i → VR σ 42 qf k n a F → τ 1 = qf → τ 0 3 = ι k → τ 3 = F → TC σ 35 236 l → TR τ l → l.length + 3 * m + cz c ≤ 236 → ∃ c' z z' ρ υ l', fX10_writeMissing_l12 42 (ι q) 35 (ι (sm (qN qf) 0 q)) n1 (ι c) (ι i) σ = some (ι c', z, ρ) ∧ fX12_writesMissing_l4 (ι q) n2 (ι c) (ι i) τ = some (ι c', z', υ) ∧ TC ρ 35 236 l' ∧ TR υ l' ∧ l'.length + cy c' ≤ l.length + 3 * m + cz c ∧ c' ≤ 12 ∧ frT 35 σ ρ ∧ frW τ υ := by
  have hn := hQ.2.2.2.2
  have hk := hQ.2.1
  obtain ⟨g1, g2, g3⟩ := hQ.2.2.1 q hq
  have hend := q_end hQ hq
  intro m
  induction m with
  | zero =>
    intro n1 n2 c i σ τ l hi h1 h2 hc hV t1 t2 t3 hT hR hl
    obtain ⟨n1, rfl⟩ : ∃ k, n1 = k + 1 := ⟨n1 - 1, by omega⟩
    obtain ⟨n2, rfl⟩ : ∃ k, n2 = k + 1 := ⟨n2 - 1, by omega⟩
    have e1 : fX3_at (42 + 1) (ι q) σ = some (ι (qN qf q)) := by
      rw [c_at hV.1.1 (by omega) (show q < 8 by omega), hV.2.2.2.2.1 q hq]; rw [← g1]
    have e2 : τ 1 q = ι (qN qf q) := by rw [t1]; exact g1
    refine ⟨c, ι i, ι i, σ, τ, l, ?_, ?_, hT, hR, ?_, by omega, frT_refl _ _, frW_refl _⟩
    · rw [fX10_writeMissing_l12, e1, Option.bind_some, if_pos (by rw [ι_le (by omega) (by omega)]; omega)]
    · rw [fX12_writesMissing_l4]
      simp (disch := omega) only [l_0, l_1, l_2, l_3, l_4, l_5, l_6, l_7, l_8, l_9, l_10, l_12, l_13, l_24, l_31, l_32, l_40, l_41, l_42, l_44, l_45, l_48, l_49, l_50, l_57, l_59, l_60, l_65, l_88, l_89, l_97, l_98, l_99, l_100, l_105, l_108, l_109, l_114, l_118, l_120, l_122, l_144, l_255, l_269, l_279, l_339, l_400, l_600, l_999, l_1000, l_2373, l_2712, ι_lt, ι_le, ι_eq, ι_add, ι_mul, ι_sub, ι_div, ι_n, ι_m1, m1_ι, m1_lt, m1_le, lt_m1, le_m1, m1_lt_m1, m1_le_m1, m1_add1, neg_ι1, ι_addm, ι_addn, Bool.false_eq_true, Nat.not_lt_zero, Nat.add_zero, Nat.zero_add, Nat.mul_zero, Nat.reduceMul, Nat.reduceAdd, Nat.reduceSub, Nat.reduceLT, Nat.reduceLeDiff, Nat.reduceEqDiff, Nat.reduceDiv, Nat.reduceBEq, Nat.reduceBNe, false_or, or_false, true_or, or_true, and_true, true_and, false_and, and_false, not_false_eq_true, not_true_eq_false, if_true, if_false, if_pos, if_neg, Option.bind_some, ite_false, ite_true, eq_self, reduceIte, lm_0, lm_1, lm_2, lm_3, lm_4, lm_5, lm_6, lm_7, lm_8, lm_9, lm_10, lm_11, lm_12, lm_13, lm_14, lm_15, lm_16, lm_17, e2]
    · unfold cy cz; split <;> omega
  | succ m ih =>
    intro n1 n2 c i σ τ l hi h1 h2 hc hV t1 t2 t3 hT hR hl
    obtain ⟨n1, rfl⟩ : ∃ k, n1 = k + 1 := ⟨n1 - 1, by omega⟩
    obtain ⟨n2, rfl⟩ : ∃ k, n2 = k + 1 := ⟨n2 - 1, by omega⟩
    have e1 : fX3_at (42 + 1) (ι q) σ = some (ι (qN qf q)) := by
      rw [c_at hV.1.1 (by omega) (show q < 8 by omega), hV.2.2.2.2.1 q hq]; rw [← g1]
    have e2 : τ 1 q = ι (qN qf q) := by rw [t1]; exact g1
    have e3 := c_isPresent hn hV (show sm (qN qf) 0 q + i < n by omega)
    have e4 : fX12_isPresent (ι (sm (qN qf) 0 q + i)) τ = some (if pB F (sm (qN qf) 0 q + i) then ι 1 else ι 0) := by
      rw [r_isPresent (by omega), t3]
    have e5 : fX12_firstOf (ι q) τ = some (ι (sm (qN qf) 0 q)) := by
      have := r_firstOf (τ := τ) (k := k) (n := n) (by rw [t1]; exact hQ) (show q ≤ k by omega)
      rw [t1] at this; exact this
    have hno : ¬ (ι (qN qf q) ≤ ι i) := by rw [ι_le (by omega) (by omega)]; omega
    have hfn : ¬ (ι q < (0 : Int32) ∨ lm 1 ≤ (ι q).toNatClampNeg) := by simp (disch := omega) only [l_0, l_1, l_2, l_3, l_4, l_5, l_6, l_7, l_8, l_9, l_10, l_12, l_13, l_24, l_31, l_32, l_40, l_41, l_42, l_44, l_45, l_48, l_49, l_50, l_57, l_59, l_60, l_65, l_88, l_89, l_97, l_98, l_99, l_100, l_105, l_108, l_109, l_114, l_118, l_120, l_122, l_144, l_255, l_269, l_279, l_339, l_400, l_600, l_999, l_1000, l_2373, l_2712, ι_lt, ι_le, ι_eq, ι_add, ι_mul, ι_sub, ι_div, ι_n, ι_m1, m1_ι, m1_lt, m1_le, lt_m1, le_m1, m1_lt_m1, m1_le_m1, m1_add1, neg_ι1, ι_addm, ι_addn, Bool.false_eq_true, Nat.not_lt_zero, Nat.add_zero, Nat.zero_add, Nat.mul_zero, Nat.reduceMul, Nat.reduceAdd, Nat.reduceSub, Nat.reduceLT, Nat.reduceLeDiff, Nat.reduceEqDiff, Nat.reduceDiv, Nat.reduceBEq, Nat.reduceBNe, false_or, or_false, true_or, or_true, and_true, true_and, false_and, and_false, not_false_eq_true, not_true_eq_false, if_true, if_false, if_pos, if_neg, Option.bind_some, ite_false, ite_true, eq_self, reduceIte, lm_0, lm_1, lm_2, lm_3, lm_4, lm_5, lm_6, lm_7, lm_8, lm_9, lm_10, lm_11, lm_12, lm_13, lm_14, lm_15, lm_16, lm_17]; omega
    have hqn : (ι q).toNatClampNeg = q := ι_n (by omega)
    rw [fX10_writeMissing_l12, fX12_writesMissing_l4, e1, Option.bind_some, if_neg hno, if_neg hfn, hqn, e2, if_neg hno, e5, Option.bind_some, ι_add, e3, Option.bind_some, e4, Option.bind_some, l_1, ι_add, ι_add]
    by_cases hp : pB F (sm (qN qf) 0 q + i) = true
    · rw [if_pos hp, if_neg (by decide)]
      obtain ⟨c', z, z', ρ, υ, l', b1, b2, b3, b4, b5, b6, b7, b8⟩ := ih n1 n2 c (i + 1) σ τ l (by omega) (by omega) (by omega) (by omega) hV t1 t2 t3 hT hR (by omega)
      exact ⟨c', z, z', ρ, υ, l', b1, by rw [if_neg (by decide)]; exact b2, b3, b4, by omega, b6, b7, b8⟩
    · rw [if_neg hp, if_pos (by decide)]
      have hd := dec_len2 (v := i + 1) (by omega)
      by_cases hc0 : c = 0
      · have hcz : cz c = 2 := by unfold cz; rw [if_pos hc0]
        have hci : ι c = (0 : Int32) := by rw [hc0]; rfl
        obtain ⟨σ1, a1, a2, a3⟩ := c_w (c := 40) hT (by omega)
        obtain ⟨σ2, a4, a5, a6⟩ := c_w (c := 45) a2 (by rw [len1]; omega)
        obtain ⟨σ3, a7, a8, a9⟩ := c_dec (v := i + 1) (by omega) a5 (by rw [len1, len1]; omega)
        obtain ⟨τ1, d1, d2, d3⟩ := r_w (c := 40) hR (by omega) (by omega)
        obtain ⟨τ2, d4, d5, d6⟩ := r_w (c := 45) d2 (by rw [len1]; omega) (by omega)
        obtain ⟨τ3, d7, d8, d9⟩ := r_dec (v := i + 1) (by omega) (by omega) d5 (by rw [len1, len1]; omega)
        have fσ := frT_trans a3 (frT_trans a6 a9)
        have fτ := frW_trans d3 (frW_trans d6 d9)
        have hcz1 : cz (c + 1) = 1 := by unfold cz; rw [if_neg (by omega)]
        have hl3 : (l ++ [40] ++ [45] ++ dec (i + 1)).length ≤ l.length + 4 := by rw [List.length_append, len1, len1]; omega
        obtain ⟨c', z, z', ρ, υ, l', b1, b2, b3, b4, b5, b6, b7, b8⟩ := ih n1 n2 (c + 1) (i + 1) σ3 τ3 _ (by omega) (by omega) (by omega) (by omega) (VR_t hn ha hV fσ) (by rw [← t1]; exact funext fun j => fτ 1 j (by omega)) ((fτ 0 3 (by omega)).trans t2) (by rw [← t3]; exact funext fun j => fτ 3 j (by omega)) a8 d8 (by omega)
        have a1 : fX8_add 35 (40 : Int32) σ = some σ1 := a1
        have a4 : fX8_add 35 (45 : Int32) σ1 = some σ2 := a4
        have d1 : fX12_writes (40 : Int32) τ = some τ1 := d1
        have d4 : fX12_writes (45 : Int32) τ1 = some τ2 := d4
        refine ⟨c', z, z', ρ, υ, l', ?_, ?_, b3, b4, by omega, b6, frT_trans fσ b7, frW_trans fτ b8⟩
        · rw [if_pos hci, a1, Option.bind_some, a4, Option.bind_some, a7, Option.bind_some]; exact b1
        · rw [if_pos (by decide), if_pos hci, d1, Option.bind_some, if_pos hci, d4, Option.bind_some, d7, Option.bind_some]; exact b2
      · have hcz : cz c = 1 := by unfold cz; rw [if_neg hc0]
        have hci : ¬ ι c = (0 : Int32) := by rw [l_0, ι_eq (by omega) (by omega)]; exact hc0
        obtain ⟨σ1, a1, a2, a3⟩ := c_w (c := 44) hT (by omega)
        obtain ⟨σ3, a7, a8, a9⟩ := c_dec (v := i + 1) (by omega) a2 (by rw [len1]; omega)
        obtain ⟨τ1, d1, d2, d3⟩ := r_w (c := 44) hR (by omega) (by omega)
        obtain ⟨τ3, d7, d8, d9⟩ := r_dec (v := i + 1) (by omega) (by omega) d2 (by rw [len1]; omega)
        have fσ := frT_trans a3 a9
        have fτ := frW_trans d3 d9
        have hcz1 : cz (c + 1) = 1 := by unfold cz; rw [if_neg (by omega)]
        have hl3 : (l ++ [44] ++ dec (i + 1)).length ≤ l.length + 3 := by rw [List.length_append, len1]; omega
        obtain ⟨c', z, z', ρ, υ, l', b1, b2, b3, b4, b5, b6, b7, b8⟩ := ih n1 n2 (c + 1) (i + 1) σ3 τ3 _ (by omega) (by omega) (by omega) (by omega) (VR_t hn ha hV fσ) (by rw [← t1]; exact funext fun j => fτ 1 j (by omega)) ((fτ 0 3 (by omega)).trans t2) (by rw [← t3]; exact funext fun j => fτ 3 j (by omega)) a8 d8 (by omega)
        have a1 : fX8_add 35 (44 : Int32) σ = some σ1 := a1
        have d1 : fX12_writes (44 : Int32) τ = some τ1 := d1
        refine ⟨c', z, z', ρ, υ, l', ?_, ?_, b3, b4, by omega, b6, frT_trans fσ b7, frW_trans fτ b8⟩
        · rw [if_neg hci, a1, Option.bind_some, a7, Option.bind_some]; exact b1
        · rw [if_pos (by decide), if_neg hci, d1, Option.bind_some, if_neg hci, d7, Option.bind_some]; exact b2
theorem wm_sim {F qf : Nat → Int32} {k n a q : Nat} (hQ : QI qf k n) (ha : a ≤ 12) (hq : q < k) (σ τ : Mem) (l : List Nat) (hV : VR σ 42 qf k n a F) (t1 : τ 1 = qf) (t2 : τ 0 3 = ι k) (t3 : τ 3 = F) (hT : TC σ 35 236 l) (hR : TR τ l) (hl : l.length + 3 * qN qf q + 2 ≤ 236) : ∃ ρ υ l', fX10_writeMissing 42 (ι q) 35 σ = some ρ ∧ fX12_writesMissing (ι q) τ = some υ ∧ TC ρ 35 236 l' ∧ TR υ l' ∧ l'.length ≤ l.length + 3 * qN qf q + 2 ∧ frT 35 σ ρ ∧ frW τ υ := by
  have hg := (hQ.2.2.1 q hq).2.2
  obtain ⟨c', z, z', ρ, υ, l', b1, b2, b3, b4, b5, b6, b7, b8⟩ := miss_sim hQ ha hq (qN qf q) FU FU 0 0 σ τ l (by omega) (by unfold FU; omega) (by unfold FU; omega) (by omega) hV t1 t2 t3 hT hR (by unfold cz; rw [if_pos rfl]; omega)
  have hz : cz 0 = 2 := rfl
  rw [hz] at b5
  have b1 : fX10_writeMissing_l12 42 (ι q) 35 (ι (sm (qN qf) 0 q)) FU (0 : Int32) (0 : Int32) σ = some (ι c', z, ρ) := b1
  have b2 : fX12_writesMissing_l4 (ι q) FU (0 : Int32) (0 : Int32) τ = some (ι c', z', υ) := b2
  unfold fX10_writeMissing fX12_writesMissing
  rw [c_firstLeafOf hQ hV (show q ≤ k by omega), Option.bind_some, b1, b2, Option.bind_some, Option.bind_some]
  by_cases hc : c' = 0
  · have e : ι c' ≤ (0 : Int32) := by rw [hc]; decide
    refine ⟨ρ, υ, l', if_pos e, if_pos e, b3, b4, by omega, b7, b8⟩
  · have e : ¬ ι c' ≤ (0 : Int32) := by rw [l_0, ι_le (by omega) (by omega)]; omega
    have hy : cy c' = 1 := by unfold cy; rw [if_neg hc]
    obtain ⟨ρ1, a1, a2, a3⟩ := c_w (c := 41) b3 (by omega)
    obtain ⟨υ1, d1, d2, d3⟩ := r_w (c := 41) b4 (by omega) (by omega)
    have a1 : fX8_add 35 (41 : Int32) ρ = some ρ1 := a1
    have d1 : fX12_writes (41 : Int32) υ = some υ1 := d1
    refine ⟨ρ1, υ1, _, (if_neg e).trans (by rw [a1, Option.bind_some]), (if_neg e).trans (by rw [d1, Option.bind_some]), a2, d2, by rw [len1]; omega, frT_trans b7 a3, frW_trans b8 d3⟩
theorem coll_sim {F qf : Nat → Int32} {k n a : Nat} (hQ : QI qf k n) (ha : a ≤ 12) : ∀ m n1 n2 i (σ τ : Mem) l, i + m = k → m < n1 → m < n2 → VR σ 42 qf k n a F → τ 1 = qf → τ 0 3 = ι k → τ 3 = F → TC σ 35 236 l → TR τ l → l.length + 6 * m + 3 * sm (qN qf) i m ≤ 236 → ∃ z z' ρ υ l', fX10_writeCollation_l2 42 35 n1 (ι i) σ = some (z, ρ) ∧ fX12_formatCollation_l12 n2 (ι i) τ = some (z', υ) ∧ TC ρ 35 236 l' ∧ TR υ l' ∧ frT 35 σ ρ ∧ frW τ υ := by
  have hn := hQ.2.2.2.2
  have hk := hQ.2.1
  intro m
  induction m with
  | zero =>
    intro n1 n2 i σ τ l hi h1 h2 hV t1 t2 t3 hT hR hl
    obtain ⟨n1, rfl⟩ : ∃ k, n1 = k + 1 := ⟨n1 - 1, by omega⟩
    obtain ⟨n2, rfl⟩ : ∃ k, n2 = k + 1 := ⟨n2 - 1, by omega⟩
    refine ⟨ι i, ι i, σ, τ, l, ?_, ?_, hT, hR, frT_refl _ _, frW_refl _⟩
    · rw [fX10_writeCollation_l2, hV.2.1, if_pos (by rw [ι_le (by omega) (by omega)]; omega)]
    · rw [fX12_formatCollation_l12, t2, if_pos (by rw [ι_le (by omega) (by omega)]; omega)]
  | succ m ih =>
    intro n1 n2 i σ τ l hi h1 h2 hV t1 t2 t3 hT hR hl
    obtain ⟨n1, rfl⟩ : ∃ k, n1 = k + 1 := ⟨n1 - 1, by omega⟩
    obtain ⟨n2, rfl⟩ : ∃ k, n2 = k + 1 := ⟨n2 - 1, by omega⟩
    rw [sm] at hl
    have hik : i < k := by omega
    obtain ⟨g1, g2, g3⟩ := hQ.2.2.1 i hik
    have key : ∀ (σ τ : Mem) (l : List Nat), VR σ 42 qf k n a F → τ 1 = qf → τ 0 3 = ι k → τ 3 = F → TC σ 35 236 l → TR τ l → l.length + 5 + 6 * m + 3 * (qN qf i + sm (qN qf) (i + 1) m) ≤ 236 → ∃ z z' ρ υ l', fX10_writeCollation_j20 (fX10_writeCollation_l2 42 35 n1) 42 35 (ι i) σ = some (z, ρ) ∧ fX12_formatCollation_j30 (fX12_formatCollation_l12 n2) (ι i) τ = some (z', υ) ∧ TC ρ 35 236 l' ∧ TR υ l' ∧ frT 35 σ ρ ∧ frW τ υ := by
      intro σ τ l hV t1 t2 t3 hT hR hl
      have hd := dec_len2 (v := qN qf i) (by omega)
      obtain ⟨σ1, a1, a2, a3⟩ := c_w (c := 65 + i) hT (by omega)
      obtain ⟨τ1, d1, d2, d3⟩ := r_w (c := 65 + i) hR (by omega) (by omega)
      have hV1 := VR_t hn ha hV a3
      have e1 : fX3_at (42 + 1) (ι i) σ1 = some (ι (qN qf i)) := by
        rw [c_at hV1.1.1 (by omega) (show i < 8 by omega), hV1.2.2.2.2.1 i hik]; rw [← g1]
      have e2 : τ1 1 i = ι (qN qf i) := by rw [d3 1 i (by omega), t1]; exact g1
      obtain ⟨σ2, a4, a5, a6⟩ := c_dec (v := qN qf i) (by omega) a2 (by rw [len1]; omega)
      obtain ⟨τ2, d4, d5, d6⟩ := r_dec (v := qN qf i) (by omega) (by omega) d2 (by rw [len1]; omega)
      have fσ := frT_trans a3 a6
      have fτ := frW_trans d3 d6
      have s1 : τ2 1 = qf := by rw [← t1]; exact funext fun j => fτ 1 j (by omega)
      have s2 : τ2 0 3 = ι k := (fτ 0 3 (by omega)).trans t2
      have s3 : τ2 3 = F := by rw [← t3]; exact funext fun j => fτ 3 j (by omega)
      have hl2 : (l ++ [65 + i] ++ dec (qN qf i)).length ≤ l.length + 3 := by rw [List.length_append, len1]; omega
      obtain ⟨σ3, τ3, l3, b1, b2, b3, b4, b5, b6, b7⟩ := wm_sim hQ ha hik σ2 τ2 _ (VR_t hn ha hV fσ) s1 s2 s3 a5 d5 (by omega)
      have fσ := frT_trans fσ b6
      have fτ := frW_trans fτ b7
      obtain ⟨z, z', ρ, υ, l', c1, c2, c3, c4, c5, c6⟩ := ih n1 n2 (i + 1) σ3 τ3 l3 (by omega) (by omega) (by omega) (VR_t hn ha hV fσ) (by rw [← t1]; exact funext fun j => fτ 1 j (by omega)) ((fτ 0 3 (by omega)).trans t2) (by rw [← t3]; exact funext fun j => fτ 3 j (by omega)) b3 b4 (by omega)
      have hfn : ¬ (ι i < (0 : Int32) ∨ lm 1 ≤ (ι i).toNatClampNeg) := by simp (disch := omega) only [l_0, l_1, l_2, l_3, l_4, l_5, l_6, l_7, l_8, l_9, l_10, l_12, l_13, l_24, l_31, l_32, l_40, l_41, l_42, l_44, l_45, l_48, l_49, l_50, l_57, l_59, l_60, l_65, l_88, l_89, l_97, l_98, l_99, l_100, l_105, l_108, l_109, l_114, l_118, l_120, l_122, l_144, l_255, l_269, l_279, l_339, l_400, l_600, l_999, l_1000, l_2373, l_2712, ι_lt, ι_le, ι_eq, ι_add, ι_mul, ι_sub, ι_div, ι_n, ι_m1, m1_ι, m1_lt, m1_le, lt_m1, le_m1, m1_lt_m1, m1_le_m1, m1_add1, neg_ι1, ι_addm, ι_addn, Bool.false_eq_true, Nat.not_lt_zero, Nat.add_zero, Nat.zero_add, Nat.mul_zero, Nat.reduceMul, Nat.reduceAdd, Nat.reduceSub, Nat.reduceLT, Nat.reduceLeDiff, Nat.reduceEqDiff, Nat.reduceDiv, Nat.reduceBEq, Nat.reduceBNe, false_or, or_false, true_or, or_true, and_true, true_and, false_and, and_false, not_false_eq_true, not_true_eq_false, if_true, if_false, if_pos, if_neg, Option.bind_some, ite_false, ite_true, eq_self, reduceIte, lm_0, lm_1, lm_2, lm_3, lm_4, lm_5, lm_6, lm_7, lm_8, lm_9, lm_10, lm_11, lm_12, lm_13, lm_14, lm_15, lm_16, lm_17]; omega
      have hqn : (ι i).toNatClampNeg = i := ι_n (by omega)
      refine ⟨z, z', ρ, υ, l', ?_, ?_, c3, c4, frT_trans fσ c5, frW_trans fτ c6⟩
      · unfold fX10_writeCollation_j20
        rw [l_65, ι_add, a1, Option.bind_some, e1, Option.bind_some, a4, Option.bind_some, b1, Option.bind_some, l_1, ι_add]; exact c1
      · unfold fX12_formatCollation_j30
        rw [l_65, ι_add, d1, Option.bind_some, if_neg hfn, hqn, e2, d4, Option.bind_some, b2, Option.bind_some, l_1, ι_add]; exact c2
    rw [fX10_writeCollation_l2, fX12_formatCollation_l12, hV.2.1, t2]
    have hno : ¬ (ι k ≤ ι i) := by rw [ι_le (by omega) (by omega)]; omega
    rw [if_neg hno, if_neg hno]
    by_cases hi0 : i = 0
    · have e : ι i ≤ (0 : Int32) := by rw [hi0]; decide
      rw [if_pos e, if_pos e]
      exact key σ τ l hV t1 t2 t3 hT hR (by omega)
    · have e : ¬ ι i ≤ (0 : Int32) := by rw [l_0, ι_le (by omega) (by omega)]; omega
      rw [if_neg e, if_neg e]
      obtain ⟨σ1, a1, a2, a3⟩ := c_w (c := 32) hT (by omega)
      obtain ⟨τ1, d1, d2, d3⟩ := r_w (c := 32) hR (by omega) (by omega)
      have a1 : fX8_add 35 (32 : Int32) σ = some σ1 := a1
      have d1 : fX12_writes (32 : Int32) τ = some τ1 := d1
      rw [a1, d1, Option.bind_some, Option.bind_some]
      obtain ⟨z, z', ρ, υ, l', c1, c2, c3, c4, c5, c6⟩ := key σ1 τ1 _ (VR_t hn ha hV a3) (by rw [← t1]; exact funext fun j => d3 1 j (by omega)) ((d3 0 3 (by omega)).trans t2) (by rw [← t3]; exact funext fun j => d3 3 j (by omega)) a2 d2 (by rw [len1]; omega)
      exact ⟨z, z', ρ, υ, l', c1, c2, c3, c4, frT_trans a3 c5, frW_trans d3 c6⟩
theorem sim21 : Sim21 Rel := by
  intro σ τ hR
  replace hR := Rel_0 hR 0
  unfold fX12_formatCollation fX11_formatCollation
  generalize up τ 0 0 (0 : Int32) = τ at *
  obtain ⟨k, n, a, b, d, t, hO⟩ := RO_of hR
  obtain ⟨hr, hF, hV, hL, hC, hW⟩ := hO
  have hn := hr.1.2.2.2.2
  have hk := hr.1.2.1
  obtain ⟨mf, m1, m2, m3⟩ := hr.2.2.2.2.2.1
  have t0 : frT 35 σ (up σ 35 1 (ι 0)) := fun j a b => up_k _ _ _ _ _ a
  have T0 : TC (up σ 35 1 (ι 0)) 35 236 [] := ⟨ln36, by omega, Nat.zero_le _, up_e _ _ _ _, fun i hi => absurd hi (Nat.not_lt_zero i)⟩
  have q0 : frW τ (up τ 0 21 (ι 0)) := fun k j hk => by rw [up_g, if_neg (by omega)]
  have Q0 : TR (up τ 0 21 (ι 0)) [] := ⟨Nat.zero_le _, up_e _ _ _ _, fun i hi => absurd hi (Nat.not_lt_zero i)⟩
  have s0 : fX8_shortenTo 35 (0 : Int32) σ = some (up σ 35 1 (ι 0)) := c_short (by omega) m2 (Nat.zero_le mf)
  have hs := hr.1.2.2.2.1
  obtain ⟨z, z', ρ, υ, l', c1, c2, c3, c4, c5, c6⟩ := coll_sim (F := τ 3) hr.1 hF.2.1 k FU FU 0 (up σ 35 1 (ι 0)) (up τ 0 21 (ι 0)) [] (by omega) (by unfold FU; omega) (by unfold FU; omega) (VR_t hn hF.2.1 hV t0) (by rw [up_k _ _ _ _ _ (by omega)]) (by rw [up_j _ _ _ _ _ (by omega)]; exact hr.2.1) (by rw [up_k _ _ _ _ _ (by omega)]) T0 Q0 (by rw [hs]; show 0 + 6 * k + 3 * n ≤ 236; omega)
  obtain ⟨ω, e1, e2, e3, e4⟩ := r_tells c4
  have c1 : fX10_writeCollation_l2 42 35 FU (0 : Int32) (up σ 35 1 (ι 0)) = some (z, ρ) := c1
  have c2 : fX12_formatCollation_l12 FU (0 : Int32) (up τ 0 21 (0 : Int32)) = some (z', υ) := c2
  unfold fX8_size fX10_writeCollation
  simp only [Nat.zero_add, s0, Option.bind_some, c1, c2, e1]
  refine ⟨_, _, _, rfl, ?_, fmt_Rel hR c3.2.2.1 (frT_trans t0 c5) (frW_trans q0 c6) c3 e2 e3 e4⟩
  rw [c3.2.2.2.1]

/-! PURE PART: tokens -/
def BC (B : Nat → Nat) (m : Nat) (σ : Mem) : Prop := m ≤ 600 ∧ σ 33 1 = ι m ∧ ∀ i, i < m → B i < 256 ∧ σ 34 i = ι (B i)
def BR (B : Nat → Nat) (m : Nat) (τ : Mem) : Prop := m ≤ 600 ∧ τ 0 12 = ι m ∧ ∀ i, i < m → B i < 256 ∧ τ 7 i = sx (B i)
theorem BC_c {B : Nat → Nat} {m : Nat} {σ ρ : Mem} (h : BC B m σ) (h1 : ρ 33 = σ 33) (h2 : ρ 34 = σ 34) : BC B m ρ := by
  unfold BC at *; rw [h1, h2]; exact h
theorem BR_c {B : Nat → Nat} {m : Nat} {σ ρ : Mem} (h : BR B m σ) (h1 : ρ 0 12 = σ 0 12) (h2 : ρ 7 = σ 7) : BR B m ρ := by
  unfold BR at *; rw [h1, h2]; exact h
def Kd (B : Nat → Nat) (m i : Nat) : Nat := if m ≤ i then 0 else if 97 ≤ B i ∧ B i ≤ 122 then 1 else if 48 ≤ B i ∧ B i ≤ 57 then 2 else 3
def Skp (B : Nat → Nat) (m e : Nat) : Nat := (ff (fun i => decide (B i ≠ 32)) e (m - e)).getD m
def Tk (B : Nat → Nat) (m s : Nat) : Nat := if Kd B m s = 3 then s + 1 else (ff (fun i => decide (Kd B m i ≠ Kd B m s)) s (m - s)).getD m
theorem Kd_lt (B : Nat → Nat) (m i : Nat) : Kd B m i < 4 := by unfold Kd; repeat' split
                                                               all_goals omega
theorem Kd_0 {B : Nat → Nat} {m i : Nat} : Kd B m i = 0 ↔ m ≤ i := by
  unfold Kd; constructor
  · intro h
    by_cases c : m ≤ i
    · exact c
    · rw [if_neg c] at h; revert h; repeat' split
      all_goals omega
  · intro h; rw [if_pos h]
theorem Kd_1 {B : Nat → Nat} {m i : Nat} : Kd B m i = 1 ↔ i < m ∧ 97 ≤ B i ∧ B i ≤ 122 := by
  unfold Kd; repeat' split
  all_goals omega
theorem Kd_2 {B : Nat → Nat} {m i : Nat} : Kd B m i = 2 ↔ i < m ∧ 48 ≤ B i ∧ B i ≤ 57 := by
  unfold Kd; repeat' split
  all_goals omega
theorem Skp_spec {B : Nat → Nat} {m e : Nat} (he : e ≤ m) : e ≤ Skp B m e ∧ Skp B m e ≤ m ∧ (∀ i, e ≤ i → i < Skp B m e → B i = 32) ∧ (Skp B m e < m → B (Skp B m e) ≠ 32) := by
  unfold Skp
  cases h : ff (fun i => decide (B i ≠ 32)) e (m - e) with
  | none =>
    have g := ff_none _ _ h
    show e ≤ m ∧ m ≤ m ∧ (∀ i, e ≤ i → i < m → B i = 32) ∧ (m < m → B m ≠ 32)
    refine ⟨he, Nat.le_refl _, fun i h1 h2 => ?_, fun z => absurd z (Nat.lt_irrefl _)⟩
    have := g i h1 (by omega)
    simpa using this
  | some x =>
    have g := ff_some _ _ h
    show e ≤ x ∧ x ≤ m ∧ (∀ i, e ≤ i → i < x → B i = 32) ∧ (x < m → B x ≠ 32)
    refine ⟨g.1, by have := g.2.1; omega, fun i h1 h2 => ?_, fun _ => ?_⟩
    · have := g.2.2.2 i h1 h2; simpa using this
    · have := g.2.2.1; simpa using this
theorem Skp_is {B : Nat → Nat} {m e s : Nat} (he : e ≤ s) (hs : s ≤ m) (h1 : ∀ i, e ≤ i → i < s → B i = 32) (h2 : s < m → B s ≠ 32) : Skp B m e = s := by
  obtain ⟨g1, g2, g3, g4⟩ := Skp_spec (B := B) (show e ≤ m by omega)
  rcases Nat.lt_trichotomy (Skp B m e) s with z | z | z
  · exact absurd (h1 _ g1 z) (g4 (by omega))
  · exact z
  · exact absurd (g3 s he z) (h2 (by omega))
theorem Skp_mid {B : Nat → Nat} {m e x : Nat} (he : e ≤ x) (hx : x ≤ Skp B m e) (hm : e ≤ m) : Skp B m x = Skp B m e := by
  obtain ⟨g1, g2, g3, g4⟩ := Skp_spec (B := B) hm
  exact Skp_is hx g2 (fun i h1 h2 => g3 i (by omega) h2) g4
theorem Skp_idem {B : Nat → Nat} {m e : Nat} (hm : e ≤ m) : Skp B m (Skp B m e) = Skp B m e := Skp_mid (Skp_spec hm).1 (Nat.le_refl _) hm
theorem Tk_spec {B : Nat → Nat} {m s : Nat} (hs : s ≤ m) : s ≤ Tk B m s ∧ Tk B m s ≤ m ∧ (Kd B m s ≠ 3 → (∀ i, s ≤ i → i < Tk B m s → Kd B m i = Kd B m s) ∧ (Kd B m (Tk B m s) ≠ Kd B m s ∨ Tk B m s = m)) ∧ (Kd B m s ≠ 0 → s < Tk B m s) := by
  unfold Tk
  by_cases h3 : Kd B m s = 3
  · rw [if_pos h3]
    have : ¬ m ≤ s := fun z => by have := (Kd_0 (B := B)).mpr z; omega
    exact ⟨by omega, by omega, fun z => absurd h3 z, fun _ => by omega⟩
  · rw [if_neg h3]
    cases h : ff (fun i => decide (Kd B m i ≠ Kd B m s)) s (m - s) with
    | none =>
      have g := ff_none _ _ h
      show s ≤ m ∧ m ≤ m ∧ (Kd B m s ≠ 3 → (∀ i, s ≤ i → i < m → Kd B m i = Kd B m s) ∧ (Kd B m m ≠ Kd B m s ∨ m = m)) ∧ (Kd B m s ≠ 0 → s < m)
      refine ⟨hs, Nat.le_refl _, fun _ => ⟨fun i h1 h2 => ?_, Or.inr rfl⟩, fun z => ?_⟩
      · have := g i h1 (by omega)
        simpa using this
      · have : ¬ m ≤ s := fun y => z (Kd_0.mpr y)
        omega
    | some x =>
      have g := ff_some _ _ h
      show s ≤ x ∧ x ≤ m ∧ (Kd B m s ≠ 3 → (∀ i, s ≤ i → i < x → Kd B m i = Kd B m s) ∧ (Kd B m x ≠ Kd B m s ∨ x = m)) ∧ (Kd B m s ≠ 0 → s < x)
      have gx : Kd B m x ≠ Kd B m s := by have := g.2.2.1; simpa using this
      refine ⟨g.1, by have := g.2.1; omega, fun _ => ⟨fun i h1 h2 => ?_, Or.inl gx⟩, fun z => ?_⟩
      · have := g.2.2.2 i h1 h2; simpa using this
      · rcases Nat.lt_or_ge s x with y | y
        · exact y
        · have e : x = s := by have := g.1; omega
          rw [e] at gx; exact absurd rfl gx
def nm (B : Nat → Nat) : Nat → Nat → Nat → Nat
  | _, 0, a => a
  | x, d + 1, a => nm B (x + 1) d (10 * a + B x - 48)
theorem nm_lt {B : Nat → Nat} : ∀ d x a, (∀ i, x ≤ i → i < x + d → 48 ≤ B i ∧ B i ≤ 57) → nm B x d a < (a + 1) * 10 ^ d
  | 0, x, a, h => by rw [nm]; omega
  | d + 1, x, a, h => by
    rw [nm]
    have g := nm_lt d (x + 1) (10 * a + B x - 48) (fun i h1 h2 => h i (by omega) (by omega))
    have hx := h x (by omega) (by omega)
    refine Nat.lt_of_lt_of_le g ?_
    rw [Nat.pow_succ, Nat.mul_comm (10 ^ d) 10, ← Nat.mul_assoc]
    exact Nat.mul_le_mul_right _ (by omega)
def nv (B : Nat → Nat) (m s : Nat) : Option Nat := if Kd B m s = 2 ∧ Tk B m s - s ≤ 4 then some (nm B s (Tk B m s - s) 0) else none
theorem nv_lt {B : Nat → Nat} {m s v : Nat} (hs : s ≤ m) (h : nv B m s = some v) : v < 10000 := by
  unfold nv at h
  by_cases c : Kd B m s = 2 ∧ Tk B m s - s ≤ 4
  · rw [if_pos c] at h
    cases h
    obtain ⟨t1, t2, t3, t4⟩ := Tk_spec (B := B) hs
    have g := nm_lt (B := B) (Tk B m s - s) s 0 (fun i h1 h2 => by
      have := (t3 (by omega)).1 i h1 (by omega)
      rw [c.1] at this
      exact (Kd_2.mp this).2)
    have p : 10 ^ (Tk B m s - s) ≤ 10 ^ 4 := Nat.pow_le_pow_right (by omega) c.2
    have e : (10 : Nat) ^ 4 = 10000 := rfl
    rw [Nat.zero_add, Nat.one_mul] at g
    omega
  · rw [if_neg c] at h; cases h
def CT (B : Nat → Nat) (m : Nat) (σ : Mem) (s : Nat) : Prop := s ≤ m ∧ σ 1 2 = ι (Kd B m s) ∧ σ 1 3 = ι s ∧ σ 1 4 = ι (Tk B m s) ∧ σ 1 5 = oi (nv B m s)
theorem CT_c {B : Nat → Nat} {m s : Nat} {σ ρ : Mem} (h : CT B m σ s) (e : ρ 1 = σ 1) : CT B m ρ s := by
  unfold CT at *; rw [e]; exact h
def bv (B : Nat → Nat) (m i : Nat) : Int32 := if m ≤ i then μ else ι (B i)
theorem c_byte {B : Nat → Nat} {m i : Nat} {σ : Mem} (h : BC B m σ) (hi : i < 2147483648) : fX8_byteAt 33 (ι i) σ = some (bv B m i) := by
  unfold bv
  by_cases c : m ≤ i
  · rw [if_pos c, c_byteAt_no h.1 h.2.1 c hi]
  · rw [if_neg c, c_byteAt ln34 (by omega) h.1 h.2.1 (by omega), (h.2.2 i (by omega)).2]
theorem c_kind {B : Nat → Nat} {m i : Nat} {σ ρ : Mem} (h : BC B m σ) : fX6_kindOf (bv B m i) ρ = some (ι (Kd B m i)) := by
  unfold fX6_kindOf bv Kd
  by_cases c : m ≤ i
  · rw [if_pos c, if_pos c, if_pos (by rfl)]; rfl
  · rw [if_neg c, if_neg c]
    have := (h.2.2 i (by omega)).1
    simp (disch := omega) only [l_0, l_1, l_2, l_3, l_4, l_5, l_6, l_7, l_8, l_9, l_10, l_12, l_13, l_24, l_31, l_32, l_40, l_41, l_42, l_44, l_45, l_48, l_49, l_50, l_57, l_59, l_60, l_65, l_88, l_89, l_97, l_98, l_99, l_100, l_105, l_108, l_109, l_114, l_118, l_120, l_122, l_144, l_255, l_269, l_279, l_339, l_400, l_600, l_999, l_1000, l_2373, l_2712, ι_lt, ι_le, ι_eq, ι_add, ι_mul, ι_sub, ι_div, ι_n, ι_m1, m1_ι, m1_lt, m1_le, lt_m1, le_m1, m1_lt_m1, m1_le_m1, m1_add1, neg_ι1, ι_addm, ι_addn, Bool.false_eq_true, Nat.not_lt_zero, Nat.add_zero, Nat.zero_add, Nat.mul_zero, Nat.reduceMul, Nat.reduceAdd, Nat.reduceSub, Nat.reduceLT, Nat.reduceLeDiff, Nat.reduceEqDiff, Nat.reduceDiv, Nat.reduceBEq, Nat.reduceBNe, false_or, or_false, true_or, or_true, and_true, true_and, false_and, and_false, not_false_eq_true, not_true_eq_false, if_true, if_false, if_pos, if_neg, Option.bind_some, ite_false, ite_true, eq_self, reduceIte]
    repeat' split
    all_goals first | rfl | omega
theorem c_l8 {B : Nat → Nat} {m t : Nat} (ht : t ≤ m) (h2 : t < m → B t ≠ 32) : ∀ d n x (σ : Mem), x + d = t → d < n → (∀ i, x ≤ i → i < t → B i = 32) → BC B m σ → σ 1 3 = ι x → ∃ ρ, fX6_nextToken_l8 1 n σ = some ρ ∧ ρ 1 3 = ι t ∧ ∀ k j, ¬ (k = 1 ∧ j = 3) → ρ k j = σ k j := by
  intro d
  induction d with
  | zero =>
    intro n x σ hx hn hsp hB h3
    obtain ⟨n, rfl⟩ : ∃ k, n = k + 1 := ⟨n - 1, by omega⟩
    have hm := hB.1
    have e : x = t := by omega
    subst e
    refine ⟨σ, ?_, h3, fun _ _ _ => rfl⟩
    rw [fX6_nextToken_l8]
    unfold fX8_size
    rw [show 1 + 32 = 33 from rfl, Option.bind_some, hB.2.1, h3, c_byte hB (by omega), Option.bind_some]
    by_cases c : m ≤ x
    · rw [if_pos (by rw [ι_le (by omega) (by omega)]; exact c)]
    · have hb := hB.2.2 x (by omega)
      rw [if_neg (by rw [ι_le (by omega) (by omega)]; exact c), if_neg]
      unfold bv
      rw [if_neg c, l_32, ι_eq (by omega) (by omega)]
      exact h2 (by omega)
  | succ d ih =>
    intro n x σ hx hn hsp hB h3
    obtain ⟨n, rfl⟩ : ∃ k, n = k + 1 := ⟨n - 1, by omega⟩
    have hm := hB.1
    obtain ⟨ρ, a1, a2, a3⟩ := ih n (x + 1) (up σ 1 3 (ι (x + 1))) (by omega) (by omega) (fun i g1 g2 => hsp i (by omega) g2) (BC_c hB (up_k _ _ _ _ _ (by omega)) (up_k _ _ _ _ _ (by omega))) (up_e _ _ _ _)
    refine ⟨ρ, ?_, a2, fun k j hk => by rw [a3 k j hk, up_g, if_neg hk]⟩
    rw [fX6_nextToken_l8]
    unfold fX8_size
    rw [show 1 + 32 = 33 from rfl, Option.bind_some, hB.2.1, h3, c_byte hB (by omega), Option.bind_some, if_neg (by rw [ι_le (by omega) (by omega)]; omega), if_pos (by unfold bv; rw [if_neg (by omega), hsp x (by omega) (by omega)]; rfl), l_1, ι_add]
    exact a1
theorem c_l95 {B : Nat → Nat} {m t kd : Nat} (ht : t ≤ m) (hk : kd ≠ 3) (hk4 : kd < 4) (h2 : Kd B m t ≠ kd ∨ t = m) : ∀ d n x (σ : Mem), x + d = t → d < n → (∀ i, x ≤ i → i < t → Kd B m i = kd) → BC B m σ → σ 1 4 = ι x → σ 1 2 = ι kd → ∃ ρ, fX6_nextToken_l95 1 n σ = some ρ ∧ ρ 1 4 = ι t ∧ ∀ k j, ¬ (k = 1 ∧ j = 4) → ρ k j = σ k j := by
  have hk3 : ¬ ι kd = (3 : Int32) := by rw [l_3, ι_eq (by omega) (by omega)]; exact hk
  intro d
  induction d with
  | zero =>
    intro n x σ hx hn hsp hB h4 hkd
    obtain ⟨n, rfl⟩ : ∃ k, n = k + 1 := ⟨n - 1, by omega⟩
    have hm := hB.1
    have e : x = t := by omega
    subst e
    refine ⟨σ, ?_, h4, fun _ _ _ => rfl⟩
    rw [fX6_nextToken_l95]
    unfold fX8_size
    rw [show 1 + 32 = 33 from rfl, Option.bind_some, hB.2.1, h4, hkd, c_byte hB (by omega), Option.bind_some, c_kind hB, Option.bind_some, if_neg hk3]
    by_cases c : m ≤ x
    · rw [if_pos (by rw [ι_le (by omega) (by omega)]; exact c)]
    · have hl := Kd_lt B m x
      rw [if_neg (by rw [ι_le (by omega) (by omega)]; exact c), if_neg]
      rw [ι_eq (by omega) (by omega)]
      omega
  | succ d ih =>
    intro n x σ hx hn hsp hB h4 hkd
    obtain ⟨n, rfl⟩ : ∃ k, n = k + 1 := ⟨n - 1, by omega⟩
    have hm := hB.1
    obtain ⟨ρ, a1, a2, a3⟩ := ih n (x + 1) (up σ 1 4 (ι (x + 1))) (by omega) (by omega) (fun i g1 g2 => hsp i (by omega) g2) (BC_c hB (up_k _ _ _ _ _ (by omega)) (up_k _ _ _ _ _ (by omega))) (up_e _ _ _ _) (by rw [up_j _ _ _ _ _ (by omega)]; exact hkd)
    refine ⟨ρ, ?_, a2, fun k j hk => by rw [a3 k j hk, up_g, if_neg hk]⟩
    rw [fX6_nextToken_l95]
    unfold fX8_size
    rw [show 1 + 32 = 33 from rfl, Option.bind_some, hB.2.1, h4, hkd, c_byte hB (by omega), Option.bind_some, c_kind hB, Option.bind_some, if_neg hk3, if_neg (by rw [ι_le (by omega) (by omega)]; omega), if_pos (by rw [hsp x (by omega) (by omega)]), l_1, ι_add]
    exact a1
theorem c_l22 {B : Nat → Nat} {m t : Nat} {σ : Mem} (ht : t ≤ m) (hB : BC B m σ) (h4 : σ 1 4 = ι t) : ∀ d n x a, x + d = t → d < n → (∀ i, x ≤ i → i < t → 48 ≤ B i) → fX6_numberRead_l22 1 n (ι a) (ι x) σ = some (ι (nm B x d a), ι t) := by
  have hm := hB.1
  intro m
  induction m with
  | zero =>
    intro n x a h hn hd
    obtain ⟨n, rfl⟩ : ∃ k, n = k + 1 := ⟨n - 1, by omega⟩
    rw [fX6_numberRead_l22]
    rw [h4, if_pos (by rw [ι_le (by omega) (by omega)]; omega), nm]
    have e : x = t := by omega
    rw [e]
  | succ m ih =>
    intro n x a h hn hd
    obtain ⟨n, rfl⟩ : ∃ k, n = k + 1 := ⟨n - 1, by omega⟩
    rw [fX6_numberRead_l22]
    have hx := hd x (by omega) (by omega)
    rw [h4, if_neg (by rw [ι_le (by omega) (by omega)]; omega), show 1 + 32 = 33 from rfl, c_byte hB (by omega), Option.bind_some]
    unfold bv
    rw [if_neg (by omega), l_10, l_48, l_1, ι_mul, ι_add, ι_sub (by omega), ι_add, nm]
    exact ih n (x + 1) _ (by omega) (by omega) (fun i g1 g2 => hd i (by omega) g2)
theorem c_num {B : Nat → Nat} {m s : Nat} {σ : Mem} (hs : s ≤ m) (hB : BC B m σ) (hk : Kd B m s = 2) (h3 : σ 1 3 = ι s) (h4 : σ 1 4 = ι (Tk B m s)) : fX6_numberRead 1 σ = some (oi (nv B m s)) := by
  obtain ⟨t1, t2, t3, t4⟩ := Tk_spec (B := B) hs
  have hm := hB.1
  unfold fX6_numberRead nv
  rw [h3, h4, ι_sub t1, l_4, ite_le (by omega) (by omega)]
  by_cases c : Tk B m s - s ≤ 4
  · rw [if_pos c, if_pos ⟨hk, c⟩, l_0, c_l22 t2 hB h4 (Tk B m s - s) FU s 0 (by omega) (by unfold FU; omega) (fun i g1 g2 => by
      have := (t3 (by omega)).1 i g1 g2
      rw [hk] at this
      exact (Kd_2.mp this).2.1), Option.bind_some]
    rfl
  · rw [if_neg c, if_neg (fun z => c z.2)]; rfl
theorem c_next {B : Nat → Nat} {m e : Nat} {σ : Mem} (hB : BC B m σ) (he : σ 1 4 = ι e) (hem : e ≤ m) : ∃ ρ, fX6_nextToken 1 σ = some ρ ∧ CT B m ρ (Skp B m e) ∧ ∀ j, j ≠ 1 → ρ j = σ j := by
  obtain ⟨s1, s2, s3, s4⟩ := Skp_spec (B := B) hem
  have hm := hB.1
  obtain ⟨ρ1, a1, a2, a3⟩ := c_l8 s2 s4 (Skp B m e - e) FU e (up σ 1 3 (ι e)) (by omega) (by unfold FU; omega) s3 (BC_c hB (up_k _ _ _ _ _ (by omega)) (up_k _ _ _ _ _ (by omega))) (up_e _ _ _ _)
  generalize Skp B m e = s at *
  obtain ⟨t1, t2, t3, t4⟩ := Tk_spec (B := B) s2
  have f1 : ∀ j, j ≠ 1 → ρ1 j = σ j := fun j hj => funext fun i => by rw [a3 j i (by omega), up_k _ _ _ _ _ hj]
  have hB1 : BC B m ρ1 := BC_c hB (f1 33 (by omega)) (f1 34 (by omega))
  have hkl := Kd_lt B m s
  unfold fX6_nextToken fX6_nextToken_j51
  rw [he, a1, Option.bind_some, show 1 + 32 = 33 from rfl, a2, c_byte hB1 (by omega), Option.bind_some, c_kind hB1, Option.bind_some]
  have e13 : up ρ1 1 2 (ι (Kd B m s)) 1 3 = ι s := by rw [up_j _ _ _ _ _ (by omega)]; exact a2
  rw [e13]
  have e12 : up (up ρ1 1 2 (ι (Kd B m s))) 1 4 (ι s) 1 2 = ι (Kd B m s) := by rw [up_j _ _ _ _ _ (by omega), up_e]
  have e14 : up (up ρ1 1 2 (ι (Kd B m s))) 1 4 (ι s) 1 4 = ι s := up_e _ _ _ _
  have e15 : up (up ρ1 1 2 (ι (Kd B m s))) 1 4 (ι s) 1 3 = ι s := by rw [up_j _ _ _ _ _ (by omega)]; exact e13
  have f2 : ∀ j, j ≠ 1 → up (up ρ1 1 2 (ι (Kd B m s))) 1 4 (ι s) j = σ j := fun j hj => by rw [up_k _ _ _ _ _ hj, up_k _ _ _ _ _ hj]; exact f1 j hj
  rw [e12, e14]
  generalize up (up ρ1 1 2 (ι (Kd B m s))) 1 4 (ι s) = ρ2 at *
  by_cases h3 : Kd B m s = 3
  · rw [if_pos (by rw [h3]; rfl), l_1, ι_add]
    have b2 : up ρ2 1 4 (ι (s + 1)) 1 2 = ι (Kd B m s) := by rw [up_j _ _ _ _ _ (by omega)]; exact e12
    have b3 : up ρ2 1 4 (ι (s + 1)) 1 3 = ι s := by rw [up_j _ _ _ _ _ (by omega)]; exact e15
    have b4 : up ρ2 1 4 (ι (s + 1)) 1 4 = ι (s + 1) := up_e _ _ _ _
    have f3 : ∀ j, j ≠ 1 → up ρ2 1 4 (ι (s + 1)) j = σ j := fun j hj => by rw [up_k _ _ _ _ _ hj]; exact f2 j hj
    generalize up ρ2 1 4 (ι (s + 1)) = ρ3 at *
    have c : fX6_nextToken_l95 1 FU ρ3 = some ρ3 := by
      rw [show FU = 4095 + 1 from rfl, fX6_nextToken_l95]
      unfold fX8_size
      rw [Option.bind_some, b2, if_pos (show ι (Kd B m s) = (3 : Int32) by rw [h3]; rfl)]
      split <;> rfl
    rw [c, Option.bind_some, b2, if_neg (by rw [h3]; decide)]
    refine ⟨_, rfl, ⟨s2, ?_, ?_, ?_, ?_⟩, fun j hj => by rw [up_k _ _ _ _ _ hj]; exact f3 j hj⟩
    · rw [up_j _ _ _ _ _ (by omega)]; exact b2
    · rw [up_j _ _ _ _ _ (by omega)]; exact b3
    · rw [up_j _ _ _ _ _ (by omega), b4]; unfold Tk; rw [if_pos h3]
    · rw [up_e]; unfold nv; rw [if_neg (fun z => by omega)]; rfl
  · rw [if_neg (by rw [l_3, ι_eq (by omega) (by omega)]; exact h3)]
    obtain ⟨g1, g2⟩ := t3 h3
    obtain ⟨ρ3, c1, c2, c3⟩ := c_l95 t2 h3 hkl g2 (Tk B m s - s) FU s ρ2 (by omega) (by unfold FU; omega) g1 (BC_c hB (f2 33 (by omega)) (f2 34 (by omega))) e14 e12
    have f3 : ∀ j, j ≠ 1 → ρ3 j = σ j := fun j hj => funext fun i => by rw [c3 j i (by omega), f2 j hj]
    have d2 : ρ3 1 2 = ι (Kd B m s) := (c3 1 2 (by omega)).trans e12
    have d3 : ρ3 1 3 = ι s := (c3 1 3 (by omega)).trans e15
    rw [c1, Option.bind_some, d2]
    by_cases h2 : Kd B m s = 2
    · rw [if_pos (by rw [h2]; rfl), c_num s2 (BC_c hB (f3 33 (by omega)) (f3 34 (by omega))) h2 d3 c2, Option.bind_some]
      refine ⟨_, rfl, ⟨s2, ?_, ?_, ?_, up_e _ _ _ _⟩, fun j hj => by rw [up_k _ _ _ _ _ hj]; exact f3 j hj⟩
      · rw [up_j _ _ _ _ _ (by omega)]; exact d2
      · rw [up_j _ _ _ _ _ (by omega)]; exact d3
      · rw [up_j _ _ _ _ _ (by omega)]; exact c2
    · rw [if_neg (by rw [l_2, ι_eq (by omega) (by omega)]; exact h2)]
      refine ⟨_, rfl, ⟨s2, ?_, ?_, ?_, ?_⟩, fun j hj => by rw [up_k _ _ _ _ _ hj]; exact f3 j hj⟩
      · rw [up_j _ _ _ _ _ (by omega)]; exact d2
      · rw [up_j _ _ _ _ _ (by omega)]; exact d3
      · rw [up_j _ _ _ _ _ (by omega)]; exact c2
      · rw [up_e]; unfold nv; rw [if_neg (fun z => h2 z.1)]; rfl
theorem c_nextT {B : Nat → Nat} {m s : Nat} {σ : Mem} (hB : BC B m σ) (hT : CT B m σ s) : ∃ ρ, fX6_nextToken 1 σ = some ρ ∧ CT B m ρ (Skp B m (Tk B m s)) ∧ BC B m ρ ∧ ∀ j, j ≠ 1 → ρ j = σ j := by
  obtain ⟨ρ, a1, a2, a3⟩ := c_next hB hT.2.2.2.1 (Tk_spec hT.1).2.1
  exact ⟨ρ, a1, a2, BC_c hB (a3 33 (by omega)) (a3 34 (by omega)), a3⟩
def wln (w : Nat) : Nat := (bytL.getD w []).length
def wq (B : Nat → Nat) (w s i : Nat) : Bool := decide (ι (B (s + i)) ≠ (bytL.getD w []).getD i 0)
def isW (B : Nat → Nat) (m w s : Nat) : Bool := decide (Kd B m s = 1 ∧ Tk B m s = s + wln w ∧ ff (wq B w s) 0 (wln w) = none)
theorem c_l28 {B : Nat → Nat} {m s w : Nat} {σ : Mem} (hB : BC B m σ) (h3 : σ 1 3 = ι s) (hw : s + wln w ≤ m) : ∀ d n i, i + d = wln w → d < n → (fX6_isWord_l28 1 w n (ι i) σ).bind (fun q28 => match q28 with | .inl r => some r | .inr q28 => some (1 : Int32)) = some (if ff (wq B w s) i d = none then ι 1 else ι 0) := by
  have hm := hB.1
  have el : Int32.ofNat (bytL.getD w []).length = ι (wln w) := rfl
  have el2 : (bytL.getD w []).length = wln w := rfl
  intro m
  induction m with
  | zero =>
    intro n i h hn
    obtain ⟨n, rfl⟩ : ∃ k, n = k + 1 := ⟨n - 1, by omega⟩
    rw [fX6_isWord_l28]
    rw [el, if_pos (by rw [ι_le (by omega) (by omega)]; omega), ff, if_pos rfl]; rfl
  | succ m ih =>
    intro n i h hn
    obtain ⟨n, rfl⟩ : ∃ k, n = k + 1 := ⟨n - 1, by omega⟩
    rw [fX6_isWord_l28]
    rw [el, if_neg (by rw [ι_le (by omega) (by omega)]; omega), show 1 + 32 = 33 from rfl, h3, ι_add, c_byte hB (by omega), Option.bind_some, ff, el2, ι_n (by omega), if_neg (by simp (disch := omega) only [l_0, l_1, l_2, l_3, l_4, l_5, l_6, l_7, l_8, l_9, l_10, l_12, l_13, l_24, l_31, l_32, l_40, l_41, l_42, l_44, l_45, l_48, l_49, l_50, l_57, l_59, l_60, l_65, l_88, l_89, l_97, l_98, l_99, l_100, l_105, l_108, l_109, l_114, l_118, l_120, l_122, l_144, l_255, l_269, l_279, l_339, l_400, l_600, l_999, l_1000, l_2373, l_2712, ι_lt, ι_le, ι_eq, ι_add, ι_mul, ι_sub, ι_div, ι_n, ι_m1, m1_ι, m1_lt, m1_le, lt_m1, le_m1, m1_lt_m1, m1_le_m1, m1_add1, neg_ι1, ι_addm, ι_addn, Bool.false_eq_true, Nat.not_lt_zero, Nat.add_zero, Nat.zero_add, Nat.mul_zero, Nat.reduceMul, Nat.reduceAdd, Nat.reduceSub, Nat.reduceLT, Nat.reduceLeDiff, Nat.reduceEqDiff, Nat.reduceDiv, Nat.reduceBEq, Nat.reduceBNe, false_or, or_false, true_or, or_true, and_true, true_and, false_and, and_false, not_false_eq_true, not_true_eq_false, if_true, if_false, if_pos, if_neg, Option.bind_some, ite_false, ite_true, eq_self, reduceIte]; omega)]
    unfold bv
    rw [if_neg (by omega), l_1, ι_add]
    by_cases e : ι (B (s + i)) = (bytL.getD w []).getD i 0
    · rw [if_pos e, if_neg (by unfold wq; rw [decide_eq_true_eq]; exact fun z => z e)]
      exact ih n (i + 1) (by omega) (by omega)
    · rw [if_neg e, if_pos (by unfold wq; rw [decide_eq_true_eq]; exact e), if_neg (by simp)]; rfl
theorem c_isWord {B : Nat → Nat} {m s w : Nat} {σ : Mem} (hB : BC B m σ) (hT : CT B m σ s) (hw7 : wln w ≤ 7) : fX6_isWord 1 w σ = some (if isW B m w s then ι 1 else ι 0) := by
  obtain ⟨h1, h2, h3, h4, h5⟩ := hT
  have hm := hB.1
  have hkl := Kd_lt B m s
  obtain ⟨t1, t2, t3, t4⟩ := Tk_spec (B := B) h1
  have el : Int32.ofNat (bytL.getD w []).length = ι (wln w) := rfl
  unfold fX6_isWord
  rw [h2, h4, h3, ι_sub t1, el, l_1, ite_eq (by omega) (by omega), ite_eq (by omega) (by omega)]
  unfold isW
  by_cases c1 : Kd B m s = 1
  · rw [if_pos c1]
    by_cases c2 : Tk B m s - s = wln w
    · rw [if_pos c2]
      have g := c_l28 (w := w) hB h3 (by omega) (wln w) FU 0 (by omega) (by unfold FU; omega)
      have : (decide (Kd B m s = 1 ∧ Tk B m s = s + wln w ∧ ff (wq B w s) 0 (wln w) = none) = true) = (ff (wq B w s) 0 (wln w) = none) := by
        rw [decide_eq_true_eq]
        exact propext ⟨fun z => z.2.2, fun z => ⟨c1, by omega, z⟩⟩
      rw [this]
      exact g
    · rw [if_neg c2, if_neg (by rw [decide_eq_true_eq]; omega)]; rfl
  · rw [if_neg c1, if_neg (by rw [decide_eq_true_eq]; exact fun z => c1 z.1)]; rfl

/-! PURE PART: the reference's tokens -/
def frL (τ υ : Mem) : Prop := ∀ k j, ¬ (k = 0 ∧ (j = 13 ∨ j = 14)) → υ k j = τ k j
def frM (τ υ : Mem) : Prop := ∀ k j, ¬ (k = 0 ∧ (j = 13 ∨ j = 14 ∨ j = 15)) → υ k j = τ k j
theorem frL_M {τ υ : Mem} (h : frL τ υ) : frM τ υ := fun k j hk => h k j (by omega)
theorem frM_trans {τ υ ω : Mem} (h1 : frM τ υ) (h2 : frM υ ω) : frM τ ω := fun k j hk => (h2 k j hk).trans (h1 k j hk)
theorem frM_BR {B : Nat → Nat} {m : Nat} {τ υ : Mem} (h : frM τ υ) (hB : BR B m τ) : BR B m υ := BR_c hB (h 0 12 (by omega)) (funext fun j => h 7 j (by omega))
theorem sx_and : ∀ b, b < 256 → (ι b).toInt8.toInt32 &&& (255 : Int32) = ι b := by decide +kernel
theorem r_here {B : Nat → Nat} {m p : Nat} {τ : Mem} (h : BR B m τ) (hp : p ≤ m) (h13 : τ 0 13 = ι p) : fX12_here τ = some (bv B m p) := by
  have hm := h.1
  unfold fX12_here bv
  rw [h.2.1, h13, ite_le (by omega) (by omega)]
  by_cases c : m ≤ p
  · rw [if_pos c, if_pos c]; rfl
  · rw [if_neg c, if_neg c]
    have hb := h.2.2 p (by omega)
    rw [if_neg (by simp (disch := omega) only [l_0, l_1, l_2, l_3, l_4, l_5, l_6, l_7, l_8, l_9, l_10, l_12, l_13, l_24, l_31, l_32, l_40, l_41, l_42, l_44, l_45, l_48, l_49, l_50, l_57, l_59, l_60, l_65, l_88, l_89, l_97, l_98, l_99, l_100, l_105, l_108, l_109, l_114, l_118, l_120, l_122, l_144, l_255, l_269, l_279, l_339, l_400, l_600, l_999, l_1000, l_2373, l_2712, ι_lt, ι_le, ι_eq, ι_add, ι_mul, ι_sub, ι_div, ι_n, ι_m1, m1_ι, m1_lt, m1_le, lt_m1, le_m1, m1_lt_m1, m1_le_m1, m1_add1, neg_ι1, ι_addm, ι_addn, Bool.false_eq_true, Nat.not_lt_zero, Nat.add_zero, Nat.zero_add, Nat.mul_zero, Nat.reduceMul, Nat.reduceAdd, Nat.reduceSub, Nat.reduceLT, Nat.reduceLeDiff, Nat.reduceEqDiff, Nat.reduceDiv, Nat.reduceBEq, Nat.reduceBNe, false_or, or_false, true_or, or_true, and_true, true_and, false_and, and_false, not_false_eq_true, not_true_eq_false, if_true, if_false, if_pos, if_neg, Option.bind_some, ite_false, ite_true, eq_self, reduceIte, lm_0, lm_1, lm_2, lm_3, lm_4, lm_5, lm_6, lm_7, lm_8, lm_9, lm_10, lm_11, lm_12, lm_13, lm_14, lm_15, lm_16, lm_17]; omega), ι_n (by omega), hb.2]
    unfold sx
    rw [sx_and _ hb.1]
theorem r_l0 {B : Nat → Nat} {m t : Nat} (ht : t ≤ m) (h2 : t < m → B t ≠ 32) : ∀ d n x (τ : Mem), x + d = t → d < n → (∀ i, x ≤ i → i < t → B i = 32) → BR B m τ → τ 0 13 = ι x → ∃ υ, fX12_look_l0 n τ = some υ ∧ υ 0 13 = ι t ∧ ∀ k j, ¬ (k = 0 ∧ j = 13) → υ k j = τ k j := by
  intro d
  induction d with
  | zero =>
    intro n x τ hx hn hsp hB h13
    obtain ⟨n, rfl⟩ : ∃ k, n = k + 1 := ⟨n - 1, by omega⟩
    have e : x = t := by omega
    subst e
    refine ⟨τ, ?_, h13, fun _ _ _ => rfl⟩
    rw [fX12_look_l0, r_here hB ht h13, Option.bind_some, if_neg]
    unfold bv
    by_cases c : m ≤ x
    · rw [if_pos c]; decide
    · have hb := hB.2.2 x (by omega)
      rw [if_neg c, l_32, ι_eq (by omega) (by omega)]
      exact h2 (by omega)
  | succ d ih =>
    intro n x τ hx hn hsp hB h13
    obtain ⟨n, rfl⟩ : ∃ k, n = k + 1 := ⟨n - 1, by omega⟩
    obtain ⟨υ, a1, a2, a3⟩ := ih n (x + 1) (up τ 0 13 (ι (x + 1))) (by omega) (by omega) (fun i g1 g2 => hsp i (by omega) g2) (BR_c hB (up_j _ _ _ _ _ (by omega)) (up_k _ _ _ _ _ (by omega))) (up_e _ _ _ _)
    refine ⟨υ, ?_, a2, fun k j hk => by rw [a3 k j hk, up_g, if_neg hk]⟩
    rw [fX12_look_l0, r_here hB (by omega) h13, Option.bind_some, if_pos (by unfold bv; rw [if_neg (by omega), hsp x (by omega) (by omega)]; rfl), h13, l_1, ι_add]
    exact a1
theorem r_look {B : Nat → Nat} {m p : Nat} {τ : Mem} (h : BR B m τ) (hp : p ≤ m) (h13 : τ 0 13 = ι p) : ∃ υ, fX12_look τ = some (bv B m (Skp B m p), υ) ∧ υ 0 13 = ι (Skp B m p) ∧ υ 0 14 = ι (Skp B m p) ∧ frL τ υ := by
  obtain ⟨s1, s2, s3, s4⟩ := Skp_spec (B := B) hp
  have hm := h.1
  obtain ⟨υ, a1, a2, a3⟩ := r_l0 s2 s4 (Skp B m p - p) FU p τ (by omega) (by unfold FU; omega) s3 h h13
  have e13 : up υ 0 14 (ι (Skp B m p)) 0 13 = ι (Skp B m p) := by rw [up_j _ _ _ _ _ (by omega)]; exact a2
  have fr : frL τ (up υ 0 14 (ι (Skp B m p))) := fun k j hk => by rw [up_g, if_neg (by omega)]; exact a3 k j (by omega)
  refine ⟨up υ 0 14 (ι (Skp B m p)), ?_, e13, up_e _ _ _ _, fr⟩
  unfold fX12_look
  rw [a1, Option.bind_some, a2, r_here (frM_BR (frL_M fr) h) s2 e13, Option.bind_some]
theorem r_fine {τ : Mem} (h : τ 0 15 = μ) : fX12_isFine τ = some (ι 1) := by
  unfold fX12_isFine; rw [h, if_neg (by decide)]; rfl
theorem r_notf {τ : Mem} {s : Nat} (h : τ 0 15 = ι s) (hs : s ≤ 600) : fX12_isFine τ = some (ι 0) := by
  unfold fX12_isFine; rw [h, if_pos (by rw [l_0, ι_le (by omega) (by omega)]; omega)]; rfl
theorem r_wrong {τ : Mem} (h : τ 0 15 = μ) (x : Int32) : fX12_wrongAt x τ = some (up τ 0 15 x) := by
  unfold fX12_wrongAt; rw [h, if_neg (by decide)]
theorem r_wrong_no {τ : Mem} {s : Nat} (h : τ 0 15 = ι s) (hs : s ≤ 600) (x : Int32) : fX12_wrongAt x τ = some τ := by
  unfold fX12_wrongAt; rw [h, if_pos (by rw [l_0, ι_le (by omega) (by omega)]; omega)]
theorem r_isLetter {b : Nat} (hb : b < 256) (τ : Mem) : fX12_isLetter (sx b) τ = some (if 97 ≤ b ∧ b ≤ 122 then ι 1 else ι 0) := by
  unfold fX12_isLetter sx
  by_cases h : b < 128
  · rw [nar_0 b h]
    simp (disch := omega) only [l_0, l_1, l_2, l_3, l_4, l_5, l_6, l_7, l_8, l_9, l_10, l_12, l_13, l_24, l_31, l_32, l_40, l_41, l_42, l_44, l_45, l_48, l_49, l_50, l_57, l_59, l_60, l_65, l_88, l_89, l_97, l_98, l_99, l_100, l_105, l_108, l_109, l_114, l_118, l_120, l_122, l_144, l_255, l_269, l_279, l_339, l_400, l_600, l_999, l_1000, l_2373, l_2712, ι_lt, ι_le, ι_eq, ι_add, ι_mul, ι_sub, ι_div, ι_n, ι_m1, m1_ι, m1_lt, m1_le, lt_m1, le_m1, m1_lt_m1, m1_le_m1, m1_add1, neg_ι1, ι_addm, ι_addn, Bool.false_eq_true, Nat.not_lt_zero, Nat.add_zero, Nat.zero_add, Nat.mul_zero, Nat.reduceMul, Nat.reduceAdd, Nat.reduceSub, Nat.reduceLT, Nat.reduceLeDiff, Nat.reduceEqDiff, Nat.reduceDiv, Nat.reduceBEq, Nat.reduceBNe, false_or, or_false, true_or, or_true, and_true, true_and, false_and, and_false, not_false_eq_true, not_true_eq_false, if_true, if_false, if_pos, if_neg, Option.bind_some, ite_false, ite_true, eq_self, reduceIte]
    repeat' split
    all_goals first | rfl | omega
  · have h1 := sx_hi (b - 128) (by omega)
    rw [show b - 128 + 128 = b by omega] at h1
    rw [if_pos (by rw [l_97, (neg0 h1 (by omega)).2.1]; exact trivial), if_neg (by omega)]; rfl
theorem r_l19 {B : Nat → Nat} {m t w : Nat} {τ : Mem} (hB : BR B m τ) (ht : t ≤ m) (h2 : t < m → ¬ (97 ≤ B t ∧ B t ≤ 122)) : ∀ d n x, x + d = t → d < n → (∀ i, x ≤ i → i < t → 97 ≤ B i ∧ B i ≤ 122) → fX12_takes_l19 w n (ι x) τ = some (ι t) := by
  have hm := hB.1
  intro m
  induction m with
  | zero =>
    intro n x h hn hd
    obtain ⟨n, rfl⟩ : ∃ k, n = k + 1 := ⟨n - 1, by omega⟩
    rw [fX12_takes_l19]
    have e : x = t := by omega
    subst e
    rw [hB.2.1]
    by_cases c : m ≤ x
    · rw [if_pos (by rw [ι_le (by omega) (by omega)]; exact c)]
    · have hb := hB.2.2 x (by omega)
      rw [if_neg (by rw [ι_le (by omega) (by omega)]; exact c), if_neg (by simp (disch := omega) only [l_0, l_1, l_2, l_3, l_4, l_5, l_6, l_7, l_8, l_9, l_10, l_12, l_13, l_24, l_31, l_32, l_40, l_41, l_42, l_44, l_45, l_48, l_49, l_50, l_57, l_59, l_60, l_65, l_88, l_89, l_97, l_98, l_99, l_100, l_105, l_108, l_109, l_114, l_118, l_120, l_122, l_144, l_255, l_269, l_279, l_339, l_400, l_600, l_999, l_1000, l_2373, l_2712, ι_lt, ι_le, ι_eq, ι_add, ι_mul, ι_sub, ι_div, ι_n, ι_m1, m1_ι, m1_lt, m1_le, lt_m1, le_m1, m1_lt_m1, m1_le_m1, m1_add1, neg_ι1, ι_addm, ι_addn, Bool.false_eq_true, Nat.not_lt_zero, Nat.add_zero, Nat.zero_add, Nat.mul_zero, Nat.reduceMul, Nat.reduceAdd, Nat.reduceSub, Nat.reduceLT, Nat.reduceLeDiff, Nat.reduceEqDiff, Nat.reduceDiv, Nat.reduceBEq, Nat.reduceBNe, false_or, or_false, true_or, or_true, and_true, true_and, false_and, and_false, not_false_eq_true, not_true_eq_false, if_true, if_false, if_pos, if_neg, Option.bind_some, ite_false, ite_true, eq_self, reduceIte, lm_0, lm_1, lm_2, lm_3, lm_4, lm_5, lm_6, lm_7, lm_8, lm_9, lm_10, lm_11, lm_12, lm_13, lm_14, lm_15, lm_16, lm_17]; omega), ι_n (by omega), hb.2, r_isLetter hb.1, Option.bind_some, if_neg (h2 (by omega)), if_pos (show ι 0 = (0 : Int32) from rfl)]
  | succ m ih =>
    intro n x h hn hd
    obtain ⟨n, rfl⟩ : ∃ k, n = k + 1 := ⟨n - 1, by omega⟩
    rw [fX12_takes_l19]
    have hb := hB.2.2 x (by omega)
    rw [hB.2.1, if_neg (by rw [ι_le (by omega) (by omega)]; omega), if_neg (by simp (disch := omega) only [l_0, l_1, l_2, l_3, l_4, l_5, l_6, l_7, l_8, l_9, l_10, l_12, l_13, l_24, l_31, l_32, l_40, l_41, l_42, l_44, l_45, l_48, l_49, l_50, l_57, l_59, l_60, l_65, l_88, l_89, l_97, l_98, l_99, l_100, l_105, l_108, l_109, l_114, l_118, l_120, l_122, l_144, l_255, l_269, l_279, l_339, l_400, l_600, l_999, l_1000, l_2373, l_2712, ι_lt, ι_le, ι_eq, ι_add, ι_mul, ι_sub, ι_div, ι_n, ι_m1, m1_ι, m1_lt, m1_le, lt_m1, le_m1, m1_lt_m1, m1_le_m1, m1_add1, neg_ι1, ι_addm, ι_addn, Bool.false_eq_true, Nat.not_lt_zero, Nat.add_zero, Nat.zero_add, Nat.mul_zero, Nat.reduceMul, Nat.reduceAdd, Nat.reduceSub, Nat.reduceLT, Nat.reduceLeDiff, Nat.reduceEqDiff, Nat.reduceDiv, Nat.reduceBEq, Nat.reduceBNe, false_or, or_false, true_or, or_true, and_true, true_and, false_and, and_false, not_false_eq_true, not_true_eq_false, if_true, if_false, if_pos, if_neg, Option.bind_some, ite_false, ite_true, eq_self, reduceIte, lm_0, lm_1, lm_2, lm_3, lm_4, lm_5, lm_6, lm_7, lm_8, lm_9, lm_10, lm_11, lm_12, lm_13, lm_14, lm_15, lm_16, lm_17]; omega), ι_n (by omega), hb.2, r_isLetter hb.1, Option.bind_some, if_pos (hd x (by omega) (by omega)), if_neg (by decide), l_1, ι_add]
    exact ih n (x + 1) (by omega) (by omega) (fun i g1 g2 => hd i (by omega) g2)
theorem r_l63 {B : Nat → Nat} {m s w : Nat} {τ : Mem} {X : Int32} (hB : BR B m τ) (h13 : τ 0 13 = ι s) (hw : s + wln w ≤ m) (hw7 : wln w ≤ 7) (hl : ∀ i, s ≤ i → i < s + wln w → 97 ≤ B i ∧ B i ≤ 122) : ∀ d n i, i + d = wln w → d < n → fX12_takes_l63 w X n (ι i) τ = some (if ff (wq B w s) i d = none then .inr (ι (wln w)) else .inl (ι 0, τ)) := by
  have hm := hB.1
  have el : Int32.ofNat (bytL.getD w []).length = ι (wln w) := rfl
  have el2 : (bytL.getD w []).length = wln w := rfl
  intro m
  induction m with
  | zero =>
    intro n i h hn
    obtain ⟨n, rfl⟩ : ∃ k, n = k + 1 := ⟨n - 1, by omega⟩
    rw [fX12_takes_l63]
    have e : i = wln w := by omega
    rw [el, if_pos (by rw [ι_le (by omega) (by omega)]; omega), ff, if_pos rfl, e]
  | succ m ih =>
    intro n i h hn
    obtain ⟨n, rfl⟩ : ∃ k, n = k + 1 := ⟨n - 1, by omega⟩
    rw [fX12_takes_l63]
    have hb := hB.2.2 (s + i) (by omega)
    have hc := hl (s + i) (by omega) (by omega)
    have hx : τ 7 (s + i) = ι (B (s + i)) := by rw [hb.2]; unfold sx; rw [nar_0 _ (by omega)]
    rw [el, if_neg (by rw [ι_le (by omega) (by omega)]; omega), h13, ι_add, if_neg (by simp (disch := omega) only [l_0, l_1, l_2, l_3, l_4, l_5, l_6, l_7, l_8, l_9, l_10, l_12, l_13, l_24, l_31, l_32, l_40, l_41, l_42, l_44, l_45, l_48, l_49, l_50, l_57, l_59, l_60, l_65, l_88, l_89, l_97, l_98, l_99, l_100, l_105, l_108, l_109, l_114, l_118, l_120, l_122, l_144, l_255, l_269, l_279, l_339, l_400, l_600, l_999, l_1000, l_2373, l_2712, ι_lt, ι_le, ι_eq, ι_add, ι_mul, ι_sub, ι_div, ι_n, ι_m1, m1_ι, m1_lt, m1_le, lt_m1, le_m1, m1_lt_m1, m1_le_m1, m1_add1, neg_ι1, ι_addm, ι_addn, Bool.false_eq_true, Nat.not_lt_zero, Nat.add_zero, Nat.zero_add, Nat.mul_zero, Nat.reduceMul, Nat.reduceAdd, Nat.reduceSub, Nat.reduceLT, Nat.reduceLeDiff, Nat.reduceEqDiff, Nat.reduceDiv, Nat.reduceBEq, Nat.reduceBNe, false_or, or_false, true_or, or_true, and_true, true_and, false_and, and_false, not_false_eq_true, not_true_eq_false, if_true, if_false, if_pos, if_neg, Option.bind_some, ite_false, ite_true, eq_self, reduceIte, lm_0, lm_1, lm_2, lm_3, lm_4, lm_5, lm_6, lm_7, lm_8, lm_9, lm_10, lm_11, lm_12, lm_13, lm_14, lm_15, lm_16, lm_17]; omega), el2, if_neg (by simp (disch := omega) only [l_0, l_1, l_2, l_3, l_4, l_5, l_6, l_7, l_8, l_9, l_10, l_12, l_13, l_24, l_31, l_32, l_40, l_41, l_42, l_44, l_45, l_48, l_49, l_50, l_57, l_59, l_60, l_65, l_88, l_89, l_97, l_98, l_99, l_100, l_105, l_108, l_109, l_114, l_118, l_120, l_122, l_144, l_255, l_269, l_279, l_339, l_400, l_600, l_999, l_1000, l_2373, l_2712, ι_lt, ι_le, ι_eq, ι_add, ι_mul, ι_sub, ι_div, ι_n, ι_m1, m1_ι, m1_lt, m1_le, lt_m1, le_m1, m1_lt_m1, m1_le_m1, m1_add1, neg_ι1, ι_addm, ι_addn, Bool.false_eq_true, Nat.not_lt_zero, Nat.add_zero, Nat.zero_add, Nat.mul_zero, Nat.reduceMul, Nat.reduceAdd, Nat.reduceSub, Nat.reduceLT, Nat.reduceLeDiff, Nat.reduceEqDiff, Nat.reduceDiv, Nat.reduceBEq, Nat.reduceBNe, false_or, or_false, true_or, or_true, and_true, true_and, false_and, and_false, not_false_eq_true, not_true_eq_false, if_true, if_false, if_pos, if_neg, Option.bind_some, ite_false, ite_true, eq_self, reduceIte]; omega), ι_n (by omega), ι_n (by omega), hx, ff, l_1, ι_add]
    by_cases e : ι (B (s + i)) = (bytL.getD w []).getD i 0
    · rw [if_pos e, if_neg (by unfold wq; rw [decide_eq_true_eq]; exact fun z => z e)]
      exact ih n (i + 1) (by omega) (by omega)
    · rw [if_neg e, if_pos (by unfold wq; rw [decide_eq_true_eq]; exact e), if_neg (by simp)]; rfl
def RP (B : Nat → Nat) (m : Nat) (τ : Mem) (p : Nat) : Prop := BR B m τ ∧ p ≤ m ∧ τ 0 13 = ι p ∧ τ 0 15 = μ
theorem r_takes {B : Nat → Nat} {m p s w : Nat} {τ : Mem} (h : RP B m τ p) (hs : Skp B m p = s) (hw1 : 1 ≤ wln w) (hw7 : wln w ≤ 7) : ∃ υ, fX12_takes w τ = some (if isW B m w s then ι 1 else ι 0, υ) ∧ RP B m υ (if isW B m w s then Tk B m s else s) ∧ υ 0 14 = ι s ∧ frL τ υ := by
  obtain ⟨hB, hp, h13, h15⟩ := h
  have hm := hB.1
  obtain ⟨s1, s2, s3, s4⟩ := Skp_spec (B := B) hp
  obtain ⟨υ, a1, a2, a3, a4⟩ := r_look hB hp h13
  rw [hs] at s1 s2 s3 s4 a1 a2 a3
  obtain ⟨t1, t2, t3, t4⟩ := Tk_spec (B := B) s2
  have hB2 := frM_BR (frL_M a4) hB
  have e15 : υ 0 15 = μ := (a4 0 15 (by omega)).trans h15
  have el : Int32.ofNat (bytL.getD w []).length = ι (wln w) := rfl
  unfold fX12_takes fX12_takes_j45
  rw [r_fine h15, Option.bind_some, if_neg (by decide), a1, Option.bind_some, a2, el]
  have hno : isW B m w s = false → ∃ ω, (some ((0 : Int32), υ) : Option (Int32 × Mem)) = some (if isW B m w s = true then ι 1 else ι 0, ω) ∧ RP B m ω (if isW B m w s = true then Tk B m s else s) ∧ ω 0 14 = ι s ∧ frL τ ω := fun z => by
    rw [z]
    exact ⟨υ, rfl, ⟨hB2, s2, a2, e15⟩, a3, a4⟩
  by_cases k1 : Kd B m s = 1
  · obtain ⟨g1, g2⟩ := t3 (by omega)
    have hlet : ∀ i, s ≤ i → i < Tk B m s → 97 ≤ B i ∧ B i ≤ 122 := fun i z1 z2 => by
      have := g1 i z1 z2
      rw [k1] at this
      exact (Kd_1.mp this).2
    rw [r_l19 hB2 t2 (fun z y => by
      have := (Kd_1 (B := B)).mpr ⟨z, y⟩
      omega) (Tk B m s - s) FU s (by omega) (by unfold FU; omega) hlet, Option.bind_some, ι_sub t1, ite_eq (by omega) (by omega)]
    by_cases c2 : Tk B m s - s = wln w
    · rw [if_pos c2, l_0, r_l63 (X := ι (Tk B m s)) hB2 a2 (by omega) hw7 (fun i z1 z2 => hlet i z1 (by omega)) (wln w) FU 0 (by omega) (by unfold FU; omega), Option.bind_some]
      by_cases c3 : ff (wq B w s) 0 (wln w) = none
      · rw [if_pos c3]
        have hi : isW B m w s = true := by unfold isW; rw [decide_eq_true_eq]; exact ⟨k1, by omega, c3⟩
        rw [hi]
        refine ⟨up υ 0 13 (ι (Tk B m s)), rfl, ⟨BR_c hB2 (up_j _ _ _ _ _ (by omega)) (up_k _ _ _ _ _ (by omega)), t2, up_e _ _ _ _, ?_⟩, ?_, fun k j hk => ?_⟩
        · rw [up_j _ _ _ _ _ (by omega)]; exact e15
        · rw [up_j _ _ _ _ _ (by omega)]; exact a3
        · rw [up_g, if_neg (by omega)]; exact a4 k j hk
      · rw [if_neg c3]
        exact hno (by unfold isW; rw [decide_eq_false_iff_not]; exact fun z => c3 z.2.2)
    · rw [if_neg c2]
      exact hno (by unfold isW; rw [decide_eq_false_iff_not]; omega)
  · rw [r_l19 hB2 s2 (fun z y => k1 (Kd_1.mpr ⟨z, y⟩)) 0 FU s (by omega) (by unfold FU; omega) (fun i z1 z2 => by omega), Option.bind_some, ι_sub (Nat.le_refl s), Nat.sub_self, ite_eq (by omega) (by omega), if_neg (by omega)]
    exact hno (by unfold isW; rw [decide_eq_false_iff_not]; exact fun z => k1 z.1)
theorem r_isDigit {B : Nat → Nat} {m i : Nat} (hb : i < m → B i < 256) (τ : Mem) : fX12_isDigit (bv B m i) τ = some (if Kd B m i = 2 then ι 1 else ι 0) := by
  unfold fX12_isDigit bv
  by_cases c : m ≤ i
  · rw [if_pos c, if_pos (by decide), if_neg (fun z => by have := (Kd_2.mp z).1; omega)]; rfl
  · have := hb (by omega)
    rw [if_neg c]
    simp (disch := omega) only [l_0, l_1, l_2, l_3, l_4, l_5, l_6, l_7, l_8, l_9, l_10, l_12, l_13, l_24, l_31, l_32, l_40, l_41, l_42, l_44, l_45, l_48, l_49, l_50, l_57, l_59, l_60, l_65, l_88, l_89, l_97, l_98, l_99, l_100, l_105, l_108, l_109, l_114, l_118, l_120, l_122, l_144, l_255, l_269, l_279, l_339, l_400, l_600, l_999, l_1000, l_2373, l_2712, ι_lt, ι_le, ι_eq, ι_add, ι_mul, ι_sub, ι_div, ι_n, ι_m1, m1_ι, m1_lt, m1_le, lt_m1, le_m1, m1_lt_m1, m1_le_m1, m1_add1, neg_ι1, ι_addm, ι_addn, Bool.false_eq_true, Nat.not_lt_zero, Nat.add_zero, Nat.zero_add, Nat.mul_zero, Nat.reduceMul, Nat.reduceAdd, Nat.reduceSub, Nat.reduceLT, Nat.reduceLeDiff, Nat.reduceEqDiff, Nat.reduceDiv, Nat.reduceBEq, Nat.reduceBNe, false_or, or_false, true_or, or_true, and_true, true_and, false_and, and_false, not_false_eq_true, not_true_eq_false, if_true, if_false, if_pos, if_neg, Option.bind_some, ite_false, ite_true, eq_self, reduceIte]
    by_cases k2 : Kd B m i = 2
    · have z := Kd_2.mp k2
      rw [if_pos k2, if_neg (by omega), if_neg (by omega)]
    · rw [if_neg k2]
      by_cases c1 : B i < 48
      · rw [if_pos c1]
      · rw [if_neg c1, if_pos]
        exact Nat.lt_of_not_le fun z => k2 (Kd_2.mpr ⟨by omega, by omega, z⟩)
theorem r_l17 {B : Nat → Nat} {m t s : Nat} {X Z : Int32} (ht : t ≤ m) (h2 : Kd B m t ≠ 2) : ∀ d n x a (τ : Mem), x + d = t → d < n → s ≤ x → (∀ i, x ≤ i → i < t → Kd B m i = 2) → BR B m τ → τ 0 13 = ι x → τ 0 14 = ι s → ∃ a' υ, fX12_number_l17 X Z n (ι a) τ = some (ι a', υ) ∧ υ 0 13 = ι t ∧ (t - s ≤ 4 → a' = nm B x d a) ∧ ∀ k j, ¬ (k = 0 ∧ j = 13) → υ k j = τ k j := by
  intro d
  induction d with
  | zero =>
    intro n x a τ hx hn hsx hd hB h13 h14
    obtain ⟨n, rfl⟩ : ∃ k, n = k + 1 := ⟨n - 1, by omega⟩
    have e : x = t := by omega
    subst e
    refine ⟨a, τ, ?_, h13, fun _ => rfl, fun _ _ _ => rfl⟩
    rw [fX12_number_l17, r_here hB ht h13, Option.bind_some, r_isDigit (fun z => (hB.2.2 x z).1), Option.bind_some, if_neg h2, if_pos (show ι 0 = (0 : Int32) from rfl)]
  | succ d ih =>
    intro n x a τ hx hn hsx hd hB h13 h14
    obtain ⟨n, rfl⟩ : ∃ k, n = k + 1 := ⟨n - 1, by omega⟩
    have hm := hB.1
    have k2 := hd x (by omega) (by omega)
    have hb := Kd_2.mp k2
    have step : ∀ y, ∃ a' υ, fX12_number_l17 X Z n (ι y) (up τ 0 13 (ι (x + 1))) = some (ι a', υ) ∧ υ 0 13 = ι t ∧ (t - s ≤ 4 → a' = nm B (x + 1) d y) ∧ ∀ k j, ¬ (k = 0 ∧ j = 13) → υ k j = τ k j := fun y => by
      obtain ⟨a', υ, b1, b2, b3, b4⟩ := ih n (x + 1) y (up τ 0 13 (ι (x + 1))) (by omega) (by omega) (by omega) (fun i g1 g2 => hd i (by omega) g2) (BR_c hB (up_j _ _ _ _ _ (by omega)) (up_k _ _ _ _ _ (by omega))) (up_e _ _ _ _) (by rw [up_j _ _ _ _ _ (by omega)]; exact h14)
      exact ⟨a', υ, b1, b2, b3, fun k j hk => by rw [b4 k j hk, up_g, if_neg hk]⟩
    rw [fX12_number_l17, r_here hB (by omega) h13, Option.bind_some, r_isDigit (fun z => (hB.2.2 x z).1), Option.bind_some, if_pos k2, if_neg (by decide), h13, h14, ι_sub hsx, l_4, l_1, ι_add, Option.bind_some, ite_le (by omega) (by omega)]
    by_cases c : 4 ≤ x - s
    · rw [if_pos c]
      obtain ⟨a', υ, b1, b2, b3, b4⟩ := step a
      exact ⟨a', υ, b1, b2, fun z => by omega, b4⟩
    · rw [if_neg c]
      unfold bv
      rw [if_neg (by omega), l_10, l_48, ι_mul, ι_add, ι_sub (by omega), nm]
      exact step _
theorem r_num {B : Nat → Nat} {m p s x : Nat} {z : Int32} {τ : Mem} (h : RP B m τ p) (hs : Skp B m p = s) (hx : x < 2147483648) :
    (∀ v, nv B m s = some v → ι x ≤ ι v → ι v ≤ z → ∃ υ, fX12_number (ι x) z τ = some (ι v, υ) ∧ RP B m υ (Tk B m s) ∧ υ 0 14 = ι s ∧ frL τ υ) ∧
    ((∀ v, nv B m s = some v → ¬ (ι x ≤ ι v ∧ ι v ≤ z)) → ∃ υ p', fX12_number (ι x) z τ = some (ι x, υ) ∧ υ 0 15 = ι s ∧ p' ≤ m ∧ υ 0 13 = ι p' ∧ frM τ υ) := by
  obtain ⟨hB, hp, h13, h15⟩ := h
  have hm := hB.1
  obtain ⟨s1, s2, s3, s4⟩ := Skp_spec (B := B) hp
  obtain ⟨υ, a1, a2, a3, a4⟩ := r_look hB hp h13
  rw [hs] at s1 s2 s3 s4 a1 a2 a3
  obtain ⟨t1, t2, t3, t4⟩ := Tk_spec (B := B) s2
  have hB2 := frM_BR (frL_M a4) hB
  have e15 : υ 0 15 = μ := (a4 0 15 (by omega)).trans h15
  unfold fX12_number
  rw [r_fine h15, Option.bind_some, if_neg (by decide), a1, Option.bind_some]
  have bad : ∀ (ω : Mem) (p' : Nat), p' ≤ m → ω 0 13 = ι p' → ω 0 14 = ι s → (∀ k j, ¬ (k = 0 ∧ j = 13) → ω k j = υ k j) → ∃ υ p', ((fX12_wrongAt (ω 0 14) ω).bind fun v115 => some (ι x, v115)) = some (ι x, υ) ∧ υ 0 15 = ι s ∧ p' ≤ m ∧ υ 0 13 = ι p' ∧ frM τ υ := fun ω p' q1 q2 q3 q4 => by
    have e : ω 0 15 = μ := (q4 0 15 (by omega)).trans e15
    refine ⟨up ω 0 15 (ι s), p', ?_, up_e _ _ _ _, q1, ?_, fun k j hk => ?_⟩
    · rw [r_wrong e, Option.bind_some, q3]
    · rw [up_j _ _ _ _ _ (by omega)]; exact q2
    · rw [up_g, if_neg (by omega), q4 k j (by omega)]; exact a4 k j (by omega)
  by_cases k2 : Kd B m s = 2
  · obtain ⟨g1, g2⟩ := t3 (by omega)
    have hlt := t4 (by omega)
    have hkt : Kd B m (Tk B m s) ≠ 2 := by
      rcases g2 with g2 | g2
      · rw [k2] at g2; exact g2
      · have := (Kd_0 (B := B)).mpr (Nat.le_of_eq g2.symm); omega
    obtain ⟨a', ω, b1, b2, b3, b4⟩ := r_l17 (X := ι x) (Z := z) t2 hkt (Tk B m s - s) FU s 0 υ (by omega) (by unfold FU; omega) (Nat.le_refl s) (fun i z1 z2 => by have := g1 i z1 z2; rw [k2] at this; exact this) hB2 a2 a3
    have b1 : fX12_number_l17 (ι x) z FU (0 : Int32) υ = some (ι a', ω) := b1
    have c14 : ω 0 14 = ι s := (b4 0 14 (by omega)).trans a3
    have c15 : ω 0 15 = μ := (b4 0 15 (by omega)).trans e15
    have fr : frL τ ω := fun k j hk => (b4 k j (by omega)).trans (a4 k j hk)
    rw [b1, Option.bind_some, b2]
    have hne : ¬ ι (Tk B m s) = ω 0 14 := by rw [c14, ι_eq (by omega) (by omega)]; omega
    rw [if_neg hne]
    rw [show ι (Tk B m s) - ω 0 14 = ι (Tk B m s - s) by rw [c14, ι_sub t1], l_4, ite_lt (by omega) (by omega)]
    by_cases c4 : 4 < Tk B m s - s
    · rw [if_pos c4]
      have hn : nv B m s = none := by unfold nv; rw [if_neg (by omega)]
      refine ⟨fun v hv => ?_, fun _ => bad ω _ t2 b2 c14 b4⟩
      rw [hn] at hv; cases hv
    · rw [if_neg c4]
      have ha := b3 (by omega)
      have hn : nv B m s = some a' := by unfold nv; rw [if_pos ⟨k2, by omega⟩, ha]
      rw [r_isIn, Option.bind_some]
      refine ⟨fun v hv h1 h2 => ?_, fun hno => ?_⟩
      · rw [hn] at hv
        cases hv
        rw [if_pos ⟨h1, h2⟩, if_neg (by decide)]
        exact ⟨ω, rfl, ⟨frM_BR (frL_M fr) hB, t2, b2, c15⟩, c14, fr⟩
      · rw [if_neg (hno a' hn), if_pos (show ι 0 = (0 : Int32) from rfl)]
        exact bad ω _ t2 b2 c14 b4
  · obtain ⟨a', ω, b1, b2, b3, b4⟩ := r_l17 (X := ι x) (Z := z) s2 k2 0 FU s 0 υ (by omega) (by unfold FU; omega) (Nat.le_refl s) (fun i z1 z2 => by omega) hB2 a2 a3
    have b1 : fX12_number_l17 (ι x) z FU (0 : Int32) υ = some (ι a', ω) := b1
    have c14 : ω 0 14 = ι s := (b4 0 14 (by omega)).trans a3
    rw [b1, Option.bind_some, b2, if_pos (by rw [c14])]
    have hn : nv B m s = none := by unfold nv; rw [if_neg (fun z => k2 z.1)]
    refine ⟨fun v hv => ?_, fun _ => bad ω _ s2 b2 c14 b4⟩
    rw [hn] at hv; cases hv
