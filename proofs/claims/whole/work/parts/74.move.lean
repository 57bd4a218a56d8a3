/-! PURE PART: scans change places -/
def sw (p q i : Nat) : Nat := if i = p then q else if i = q then p else i
def mv (s t i : Nat) : Nat := if i = t then s else if s ≤ i ∧ i < t then i + 1 else if t < i ∧ i ≤ s then i - 1 else i
theorem mv_self (k i : Nat) : mv k k i = i := by
  unfold mv; repeat' split
  all_goals omega
theorem mv_up {k t : Nat} (h : k < t) (i : Nat) : sw k (k + 1) (mv (k + 1) t i) = mv k t i := by
  unfold mv sw; repeat' split
  all_goals omega
theorem mv_dn {k t : Nat} (h : t < k) (i : Nat) : sw k (k - 1) (mv (k - 1) t i) = mv k t i := by
  unfold mv sw; repeat' split
  all_goals omega
theorem mv_lt {s t i d : Nat} (hs : s < d) (ht : t < d) (hi : i < d) : mv s t i < d := by
  unfold mv; repeat' split
  all_goals omega
def SW (τ υ : Mem) (p : Nat → Nat) : Prop := (∀ i w, i < 60 → w < 3 → υ 3 (89 + 3 * i + w) = τ 3 (89 + 3 * p i + w)) ∧ ∀ k j, ¬ (k = 3 ∧ 89 ≤ j ∧ j < 269) → υ k j = τ k j
def CSW (σ ρ : Mem) (p : Nat → Nat) : Prop := (∀ i, i < 60 → ρ 64 i = σ 64 (p i) ∧ ρ 66 i = σ 66 (p i) ∧ ρ 68 i = σ 68 (p i)) ∧ ∀ j, j ≠ 64 → j ≠ 66 → j ≠ 68 → ρ j = σ j
theorem SW_comp {τ υ ω : Mem} {p q r : Nat → Nat} (h1 : SW τ υ p) (h2 : SW υ ω q) (hq : ∀ i, i < 60 → q i < 60) (hr : ∀ i, i < 60 → p (q i) = r i) : SW τ ω r := by
  refine ⟨fun i w hi hw => ?_, fun k j hk => (h2.2 k j hk).trans (h1.2 k j hk)⟩
  rw [h2.1 i w hi hw, h1.1 (q i) w (hq i hi) hw, hr i hi]
theorem sw_step {p q w : Nat} (hp : p < 60) (hq : q < 60) (hw : w < 3) (n : Nat) (τ : Mem) : fX12_swaps_l2 (ι p) (ι q) (n + 1) (ι w) τ = fX12_swaps_l2 (ι p) (ι q) n (ι (w + 1)) (up (up τ 3 (89 + 3 * p + w) (τ 3 (89 + 3 * q + w))) 3 (89 + 3 * q + w) (τ 3 (89 + 3 * p + w))) := by
  rw [fX12_swaps_l2, r_ofScan hp hw, r_ofScan hq hw]
  simp (disch := omega) only [l_0, l_1, l_2, l_3, l_4, l_5, l_6, l_7, l_8, l_9, l_10, l_12, l_13, l_24, l_31, l_32, l_40, l_41, l_42, l_44, l_45, l_48, l_49, l_50, l_57, l_59, l_60, l_65, l_88, l_89, l_97, l_98, l_99, l_100, l_105, l_108, l_109, l_114, l_118, l_120, l_122, l_144, l_255, l_269, l_279, l_339, l_400, l_600, l_999, l_1000, l_2373, l_2712, ι_lt, ι_le, ι_eq, ι_add, ι_mul, ι_sub, ι_div, ι_n, ι_m1, m1_ι, m1_lt, m1_le, lt_m1, le_m1, m1_lt_m1, m1_le_m1, m1_add1, neg_ι1, ι_addm, ι_addn, Bool.false_eq_true, Nat.not_lt_zero, Nat.add_zero, Nat.zero_add, Nat.mul_zero, Nat.reduceMul, Nat.reduceAdd, Nat.reduceSub, Nat.reduceLT, Nat.reduceLeDiff, Nat.reduceEqDiff, Nat.reduceDiv, Nat.reduceBEq, Nat.reduceBNe, false_or, or_false, true_or, or_true, and_true, true_and, false_and, and_false, not_false_eq_true, not_true_eq_false, if_true, if_false, if_pos, if_neg, Option.bind_some, ite_false, ite_true, eq_self, reduceIte, lm_0, lm_1, lm_2, lm_3, lm_4, lm_5, lm_6, lm_7, lm_8, lm_9, lm_10, lm_11, lm_12, lm_13, lm_14, lm_15, lm_16, lm_17]
theorem r_swaps {p q : Nat} (hp : p < 60) (hq : q < 60) (hpq : p ≠ q) (τ : Mem) : ∃ υ, fX12_swaps (ι p) (ι q) τ = some υ ∧ SW τ υ (sw p q) := by
  have key : ∃ υ, fX12_swaps (ι p) (ι q) τ = some υ ∧ υ = (up (up (up (up (up (up τ 3 (89 + 3 * p + 0) (τ 3 (89 + 3 * q + 0))) 3 (89 + 3 * q + 0) (τ 3 (89 + 3 * p + 0))) 3 (89 + 3 * p + 1) (τ 3 (89 + 3 * q + 1))) 3 (89 + 3 * q + 1) (τ 3 (89 + 3 * p + 1))) 3 (89 + 3 * p + 2) (τ 3 (89 + 3 * q + 2))) 3 (89 + 3 * q + 2) (τ 3 (89 + 3 * p + 2))) := by
    unfold fX12_swaps
    rw [show FU = 4092 + 1 + 1 + 1 + 1 from rfl, l_0, sw_step hp hq (by omega), sw_step hp hq (by omega), sw_step hp hq (by omega), fX12_swaps_l2, if_pos (by decide)]
    refine ⟨_, rfl, ?_⟩
    simp (disch := omega) only [Nat.zero_add, Nat.reduceAdd, up_j]
  obtain ⟨υ, h1, h2⟩ := key
  refine ⟨υ, h1, fun i w hi hw => ?_, fun k j hk => ?_⟩
  · rw [h2]
    rcases (show w = 0 ∨ w = 1 ∨ w = 2 by omega) with z | z | z <;> subst z <;> unfold sw
    all_goals
      by_cases h1 : i = p
      · subst h1; simp (disch := omega) only [up_g, if_pos, if_neg, true_and, and_true, false_and, and_false, if_true, if_false, reduceIte]
      · by_cases h2 : i = q
        · subst h2; simp (disch := omega) only [up_g, if_pos, if_neg, true_and, and_true, false_and, and_false, if_true, if_false, reduceIte]
        · simp (disch := omega) only [up_g, if_pos, if_neg, true_and, and_true, false_and, and_false, if_true, if_false, reduceIte]
  · rw [h2]
    simp (disch := omega) only [up_g, if_pos, if_neg, true_and, and_true, false_and, and_false, if_true, if_false, reduceIte]
theorem r_goes_up {t : Nat} (ht : t < 60) : ∀ m n k (τ : Mem), k + m = t → m < n → ∃ z υ, fX12_goes_l14 (ι t) (ι 1) n (ι k) τ = some (z, υ) ∧ SW τ υ (mv k t) := by
  intro m
  induction m with
  | zero =>
    intro n k τ h hn
    obtain ⟨n, rfl⟩ : ∃ k, n = k + 1 := ⟨n - 1, by omega⟩
    have e : k = t := by omega
    subst e
    rw [fX12_goes_l14, if_pos rfl]
    exact ⟨_, _, rfl, fun i w hi hw => by rw [mv_self], fun _ _ _ => rfl⟩
  | succ m ih =>
    intro n k τ h hn
    obtain ⟨n, rfl⟩ : ∃ k, n = k + 1 := ⟨n - 1, by omega⟩
    obtain ⟨τ1, a1, a2⟩ := r_swaps (p := k) (q := k + 1) (by omega) (by omega) (by omega) τ
    obtain ⟨z, υ, b1, b2⟩ := ih n (k + 1) τ1 (by omega) (by omega)
    refine ⟨z, υ, ?_, SW_comp a2 b2 (fun i hi => mv_lt (by omega) (by omega) hi) (fun i hi => mv_up (by omega) i)⟩
    rw [fX12_goes_l14, if_neg (by rw [ι_eq (by omega) (by omega)]; omega), ι_add, a1, Option.bind_some]
    exact b1
theorem r_goes_dn {t : Nat} : ∀ m n k (τ : Mem), k = t + m → k < 60 → m < n → ∃ z υ, fX12_goes_l14 (ι t) μ n (ι k) τ = some (z, υ) ∧ SW τ υ (mv k t) := by
  intro m
  induction m with
  | zero =>
    intro n k τ h hk hn
    obtain ⟨n, rfl⟩ : ∃ k, n = k + 1 := ⟨n - 1, by omega⟩
    have e : k = t := by omega
    subst e
    rw [fX12_goes_l14, if_pos rfl]
    exact ⟨_, _, rfl, fun i w hi hw => by rw [mv_self], fun _ _ _ => rfl⟩
  | succ m ih =>
    intro n k τ h hk hn
    obtain ⟨n, rfl⟩ : ∃ k, n = k + 1 := ⟨n - 1, by omega⟩
    obtain ⟨τ1, a1, a2⟩ := r_swaps (p := k) (q := k - 1) (by omega) (by omega) (by omega) τ
    obtain ⟨z, υ, b1, b2⟩ := ih n (k - 1) τ1 (by omega) (by omega) (by omega)
    refine ⟨z, υ, ?_, SW_comp a2 b2 (fun i hi => mv_lt (by omega) (by omega) hi) (fun i hi => mv_dn (by omega) i)⟩
    rw [fX12_goes_l14, if_neg (by rw [ι_eq (by omega) (by omega)]; omega), ι_addm (by omega), a1, Option.bind_some]
    exact b1
theorem r_goesS {s t : Nat} (hs : s < 60) (ht : t < 60) (τ : Mem) : ∃ υ, fX12_goes (ι s) (ι t) τ = some υ ∧ SW τ υ (mv s t) := by
  unfold fX12_goes fX12_goes_j10
  by_cases h : t ≤ s
  · rw [if_pos (by rw [ι_le (by omega) (by omega)]; exact h)]
    obtain ⟨z, υ, a1, a2⟩ := r_goes_dn (t := t) (s - t) FU s τ (by omega) hs (by unfold FU; omega)
    have a1 : fX12_goes_l14 (ι t) (-1) FU (ι s) τ = _ := a1
    exact ⟨υ, by rw [a1]; rfl, a2⟩
  · rw [if_neg (by rw [ι_le (by omega) (by omega)]; exact h)]
    obtain ⟨z, υ, a1, a2⟩ := r_goes_up ht (t - s) FU s τ (by omega) (by unfold FU; omega)
    have a1 : fX12_goes_l14 (ι t) 1 FU (ι s) τ = _ := a1
    exact ⟨υ, by rw [a1]; rfl, a2⟩
def R3 (k : Nat) : Prop := k = 64 ∨ k = 66 ∨ k = 68
theorem ln64 : ln (62 + 1 + 1) = 60 := by decide
theorem ln66 : ln (62 + 3 + 1) = 60 := by decide
theorem ln68 : ln (62 + 5 + 1) = 60 := by decide
theorem c_rowAt {δ f : Nat} (hδ : δ = 0 ∨ δ = 10) (hf : f < 60) (σ : Mem) : fX5_kindOf (62 + δ) (ι f) σ = some (σ (64 + δ) f) ∧ fX5_firstOf (62 + δ) (ι f) σ = some (σ (66 + δ) f) ∧ fX5_secondOf (62 + δ) (ι f) σ = some (σ (68 + δ) f) := by
  unfold fX5_kindOf fX5_firstOf fX5_secondOf
  rcases hδ with rfl | rfl
  · rw [c_at (show ln (62 + 0 + 1 + 1) = 60 by decide) (by omega) hf, c_at (show ln (62 + 0 + 3 + 1) = 60 by decide) (by omega) hf, c_at (show ln (62 + 0 + 5 + 1) = 60 by decide) (by omega) hf]
    exact ⟨rfl, rfl, rfl⟩
  · rw [c_at (show ln (62 + 10 + 1 + 1) = 60 by decide) (by omega) hf, c_at (show ln (62 + 10 + 3 + 1) = 60 by decide) (by omega) hf, c_at (show ln (62 + 10 + 5 + 1) = 60 by decide) (by omega) hf]
    exact ⟨rfl, rfl, rfl⟩
theorem c_rput {t : Nat} (ht : t < 60) (x y z : Int32) (σ : Mem) : fX5_put 62 (ι t) x y z σ = some (up (up (up σ 64 t x) 66 t y) 68 t z) := by
  unfold fX5_put
  rw [c_put ln64 (by omega) ht, Option.bind_some, c_put ln66 (by omega) ht, Option.bind_some, c_put ln68 (by omega) ht, Option.bind_some]
theorem c_putFrom {δ f t : Nat} (hδ : δ = 0 ∨ δ = 10) (hf : f < 60) (ht : t < 60) (σ : Mem) : ∃ ρ, fX5_putFrom 62 (62 + δ) (ι f) (ι t) σ = some ρ ∧ (∀ k, R3 k → ρ k t = σ (k + δ) f) ∧ ∀ k j, ¬ (R3 k ∧ j = t) → ρ k j = σ k j := by
  obtain ⟨h1, h2, h3⟩ := c_rowAt hδ hf σ
  refine ⟨up (up (up σ 64 t (σ (64 + δ) f)) 66 t (σ (66 + δ) f)) 68 t (σ (68 + δ) f), ?_, fun k hk => ?_, fun k j hk => ?_⟩
  · unfold fX5_putFrom
    rw [h1, Option.bind_some, h2, Option.bind_some, h3, Option.bind_some, c_rput ht, Option.bind_some]
  · rcases hk with rfl | rfl | rfl
    · simp (disch := omega) only [up_g, if_pos, if_neg, true_and, and_true, false_and, and_false, if_true, if_false, reduceIte]
    · simp (disch := omega) only [up_g, if_pos, if_neg, true_and, and_true, false_and, and_false, if_true, if_false, reduceIte]
    · simp (disch := omega) only [up_g, if_pos, if_neg, true_and, and_true, false_and, and_false, if_true, if_false, reduceIte]
  · unfold R3 at hk
    simp (disch := omega) only [up_g, if_pos, if_neg, true_and, and_true, false_and, and_false, if_true, if_false, reduceIte]
theorem sh_up {x1 x3 x4 x5 : Int32} {t : Nat} (ht : t < 60) : ∀ m n i (σ : Mem), i + m = t → m < n → ∃ z ρ, fX5_shift_l23 62 x1 (ι t) x3 x4 x5 n (ι i) σ = some (z, ρ) ∧ (∀ k j, R3 k → i ≤ j → j < t → ρ k j = σ k (j + 1)) ∧ ∀ k j, ¬ (R3 k ∧ i ≤ j ∧ j < t) → ρ k j = σ k j := by
  intro m
  induction m with
  | zero =>
    intro n i σ h hn
    obtain ⟨n, rfl⟩ : ∃ k, n = k + 1 := ⟨n - 1, by omega⟩
    rw [fX5_shift_l23, if_pos (by rw [ι_le (by omega) (by omega)]; omega)]
    exact ⟨_, _, rfl, fun k j _ h1 h2 => by omega, fun _ _ _ => rfl⟩
  | succ m ih =>
    intro n i σ h hn
    obtain ⟨n, rfl⟩ : ∃ k, n = k + 1 := ⟨n - 1, by omega⟩
    obtain ⟨σ1, a1, a2, a3⟩ := c_putFrom (δ := 0) (f := i + 1) (t := i) (Or.inl rfl) (by omega) (by omega) σ
    have a1 : fX5_putFrom 62 62 (ι (i + 1)) (ι i) σ = some σ1 := a1
    obtain ⟨z, ρ, b1, b2, b3⟩ := ih n (i + 1) σ1 (by omega) (by omega)
    refine ⟨z, ρ, ?_, fun k j hk h1 h2 => ?_, fun k j hk => ?_⟩
    · rw [fX5_shift_l23, if_neg (by rw [ι_le (by omega) (by omega)]; omega), l_1, ι_add, a1, Option.bind_some]
      exact b1
    · by_cases hj : j = i
      · subst hj
        rw [b3 k j (by omega), a2 k hk]; rfl
      · rw [b2 k j hk (by omega) h2, a3 k (j + 1) (by omega)]
    · rw [b3 k j (fun z => hk ⟨z.1, by omega, z.2.2⟩), a3 k j (fun z => hk ⟨z.1, by omega, by omega⟩)]
theorem sh_dn {x3 x4 x5 : Int32} {t : Nat} : ∀ m n i (σ : Mem), i = t + m → i < 60 → m < n → ∃ z ρ, fX5_shift_l49 62 (ι t) x3 x4 x5 n (ι i) σ = some (z, ρ) ∧ (∀ k j, R3 k → t < j → j ≤ i → ρ k j = σ k (j - 1)) ∧ ∀ k j, ¬ (R3 k ∧ t < j ∧ j ≤ i) → ρ k j = σ k j := by
  intro m
  induction m with
  | zero =>
    intro n i σ h hi hn
    obtain ⟨n, rfl⟩ : ∃ k, n = k + 1 := ⟨n - 1, by omega⟩
    rw [fX5_shift_l49, if_pos (by rw [ι_le (by omega) (by omega)]; omega)]
    exact ⟨_, _, rfl, fun k j _ h1 h2 => by omega, fun _ _ _ => rfl⟩
  | succ m ih =>
    intro n i σ h hi hn
    obtain ⟨n, rfl⟩ : ∃ k, n = k + 1 := ⟨n - 1, by omega⟩
    obtain ⟨σ1, a1, a2, a3⟩ := c_putFrom (δ := 0) (f := i - 1) (t := i) (Or.inl rfl) (by omega) (by omega) σ
    have a1 : fX5_putFrom 62 62 (ι (i - 1)) (ι i) σ = some σ1 := a1
    obtain ⟨z, ρ, b1, b2, b3⟩ := ih n (i - 1) σ1 (by omega) (by omega) (by omega)
    refine ⟨z, ρ, ?_, fun k j hk h1 h2 => ?_, fun k j hk => ?_⟩
    · rw [fX5_shift_l49, if_neg (by rw [ι_le (by omega) (by omega)]; omega), l_1, ι_sub (by omega), a1, Option.bind_some, neg_ι1, ι_addm (by omega)]
      exact b1
    · by_cases hj : j = i
      · subst hj
        rw [b3 k j (by omega), a2 k hk]; rfl
      · rw [b2 k j hk (by omega) (by omega), a3 k (j - 1) (by omega)]
    · rw [b3 k j (fun z => hk ⟨z.1, z.2.1, by omega⟩), a3 k j (fun z => hk ⟨z.1, by omega, by omega⟩)]
theorem c_shift {s t : Nat} (hs : s < 60) (ht : t < 60) (σ : Mem) : ∃ ρ, fX5_shift 62 (ι s) (ι t) σ = some ρ ∧ CSW σ ρ (mv s t) := by
  obtain ⟨h1, h2, h3⟩ := c_rowAt (δ := 0) (Or.inl rfl) hs σ
  have h1 : fX5_kindOf 62 (ι s) σ = some (σ 64 s) := h1
  have h2 : fX5_firstOf 62 (ι s) σ = some (σ 66 s) := h2
  have h3 : fX5_secondOf 62 (ι s) σ = some (σ 68 s) := h3
  obtain ⟨z1, ρ1, a1, a2, a3⟩ : ∃ z ρ, fX5_shift_l23 62 (ι s) (ι t) (σ 64 s) (σ 66 s) (σ 68 s) FU (ι s) σ = some (z, ρ) ∧ (∀ k j, R3 k → s ≤ j → j < t → ρ k j = σ k (j + 1)) ∧ ∀ k j, ¬ (R3 k ∧ s ≤ j ∧ j < t) → ρ k j = σ k j := by
    by_cases h : s ≤ t
    · exact sh_up ht (t - s) FU s σ (by omega) (by unfold FU; omega)
    · rw [show FU = 4095 + 1 from rfl, fX5_shift_l23, if_pos (by rw [ι_le (by omega) (by omega)]; omega)]
      exact ⟨_, _, rfl, fun k j _ h1 h2 => by omega, fun _ _ _ => rfl⟩
  obtain ⟨z2, ρ2, b1, b2, b3⟩ : ∃ z ρ, fX5_shift_l49 62 (ι t) (σ 64 s) (σ 66 s) (σ 68 s) FU (ι s) ρ1 = some (z, ρ) ∧ (∀ k j, R3 k → t < j → j ≤ s → ρ k j = ρ1 k (j - 1)) ∧ ∀ k j, ¬ (R3 k ∧ t < j ∧ j ≤ s) → ρ k j = ρ1 k j := by
    by_cases h : t ≤ s
    · exact sh_dn (s - t) FU s ρ1 (by omega) hs (by unfold FU; omega)
    · rw [show FU = 4095 + 1 from rfl, fX5_shift_l49, if_pos (by rw [ι_le (by omega) (by omega)]; omega)]
      exact ⟨_, _, rfl, fun k j _ h1 h2 => by omega, fun _ _ _ => rfl⟩
  refine ⟨up (up (up ρ2 64 t (σ 64 s)) 66 t (σ 66 s)) 68 t (σ 68 s), ?_, ?_, fun j h1 h2 h3 => ?_⟩
  · unfold fX5_shift
    rw [h1, Option.bind_some, h2, Option.bind_some, h3, Option.bind_some, a1, Option.bind_some, b1, Option.bind_some, c_rput ht, Option.bind_some]
  · have key : ∀ k, R3 k → ∀ i, i ≠ t → ρ2 k i = σ k (mv s t i) := fun k hk i hit => by
      unfold mv
      rw [if_neg hit]
      by_cases g1 : s ≤ i ∧ i < t
      · rw [if_pos g1, b3 k i (by omega), a2 k i hk g1.1 g1.2]
      · rw [if_neg g1]
        by_cases g2 : t < i ∧ i ≤ s
        · rw [if_pos g2, b2 k i hk g2.1 g2.2, a3 k (i - 1) (by omega)]
        · rw [if_neg g2, b3 k i (by omega), a3 k i (by omega)]
    intro i hi
    by_cases hit : i = t
    · have e : mv s t i = s := by unfold mv; rw [if_pos hit]
      rw [e]
      subst hit
      refine ⟨?_, ?_, ?_⟩
      · simp (disch := omega) only [up_g, if_pos, if_neg, true_and, and_true, false_and, and_false, if_true, if_false, reduceIte]
      · simp (disch := omega) only [up_g, if_pos, if_neg, true_and, and_true, false_and, and_false, if_true, if_false, reduceIte]
      · simp (disch := omega) only [up_g, if_pos, if_neg, true_and, and_true, false_and, and_false, if_true, if_false, reduceIte]
    · rw [← key 64 (Or.inl rfl) i hit, ← key 66 (Or.inr (Or.inl rfl)) i hit, ← key 68 (Or.inr (Or.inr rfl)) i hit]
      refine ⟨?_, ?_, ?_⟩
      · simp (disch := omega) only [up_g, if_pos, if_neg, true_and, and_true, false_and, and_false, if_true, if_false, reduceIte]
      · simp (disch := omega) only [up_g, if_pos, if_neg, true_and, and_true, false_and, and_false, if_true, if_false, reduceIte]
      · simp (disch := omega) only [up_g, if_pos, if_neg, true_and, and_true, false_and, and_false, if_true, if_false, reduceIte]
  · rw [up_k _ _ _ _ _ (by omega), up_k _ _ _ _ _ (by omega), up_k _ _ _ _ _ (by omega)]
    refine funext fun i => ?_
    rw [b3 j i (by unfold R3; omega), a3 j i (by unfold R3; omega)]
theorem perm_RO {σ ρ τ υ : Mem} {k n a b d d' t : Nat} {p : Nat → Nat} (h : RO σ τ k n a b d t) (h1 : CSW σ ρ p) (h2 : SW τ υ p) (hd : d' ≤ d) (hp : ∀ i, i < d' → p i < d) : RO (up ρ 62 3 (ι d')) (up υ 3 2 (ι d')) k n a b d' t := by
  obtain ⟨hr, hF, hV, hL, hC, hW⟩ := h
  have hn := hr.1.2.2.2.2
  obtain ⟨f1, f2, f3, f4, f5, f6, f7, f8, f9, f10, f11, f12⟩ := hF
  have eF : ∀ j, j ≠ 2 → ¬ (89 ≤ j ∧ j < 269) → (up υ 3 2 (ι d')) 3 j = τ 3 j := fun j g1 g2 => by
    rw [up_j _ _ _ _ _ g1, h2.2 3 j (by omega)]
  have eS : ∀ i w, i < 60 → w < 3 → (up υ 3 2 (ι d')) 3 (89 + 3 * i + w) = τ 3 (89 + 3 * p i + w) := fun i w hi hw => by
    rw [up_j _ _ _ _ _ (by omega), h2.1 i w hi hw]
  have eM : ∀ j, j ≠ 62 → j ≠ 64 → j ≠ 66 → j ≠ 68 → (up ρ 62 3 (ι d')) j = σ j := fun j g1 g2 g3 g4 => by
    rw [up_k _ _ _ _ _ g1, h1.2 j g2 g3 g4]
  have e1 : up υ 3 2 (ι d') 1 = τ 1 := funext fun j => by rw [up_k _ _ _ _ _ (by omega), h2.2 1 j (by omega)]
  refine ⟨Rest_up hr (fun j hj => eM j (by omega) (by omega) (by omega) (by omega)) (fun k j hk => by rw [up_k _ _ _ _ _ hk, h2.2 k j (by omega)]), ⟨?_, f2, fun s hs => SlI_e (by omega) (f3 s hs) (fun j g1 g2 => eF j (by omega) (by omega)), ?_, f5, fun s hs => RgI_e (by omega) (f6 s hs) (fun j g1 g2 => eF j (by omega) (by omega)), up_e _ _ _ _, by omega, fun s hs => ?_, ?_, f11, fun j hj => ?_⟩, ?_, ?_, ?_, ?_⟩
  · rw [eF 0 (by omega) (by omega)]; exact f1
  · rw [eF 1 (by omega) (by omega)]; exact f4
  · have := f9 (p s) (hp s hs)
    rw [ScI_V] at this ⊢
    rw [eS s 1 (by omega) (by omega), eS s 2 (by omega) (by omega)]
    have e0 := eS s 0 (by omega) (by omega)
    rw [Nat.add_zero, Nat.add_zero] at e0
    rw [e0]; exact this
  · rw [eF 4 (by omega) (by omega)]; exact f10
  · rw [eF _ (by omega) (by omega)]; exact f12 j hj
  · rw [e1]
    exact VR_e hn f2 hV (fun j hj => eM _ (by omega) (by omega) (by omega) (by omega)) (fun j g1 g2 => eF j (by omega) (by omega)) (fun j g1 g2 => eF j (by omega) (by omega))
  · exact LR_e f5 hL (fun j hj => eM _ (by omega) (by omega) (by omega) (by omega)) (fun j g1 g2 => eF j (by omega) (by omega))
  · obtain ⟨c0, c1, c2, c3, c4⟩ := hC
    refine ⟨c0, up_e _ _ _ _, fun i hi => ?_, fun i hi => ?_, fun i hi => ?_⟩
    · have e0 := eS i 0 (by omega) (by omega)
      rw [Nat.add_zero, Nat.add_zero] at e0
      rw [up_k _ _ _ _ _ (by omega), e0]
      exact (h1.1 i (by omega)).1.trans (c2 _ (hp i hi))
    · rw [up_k _ _ _ _ _ (by omega), eS i 1 (by omega) (by omega)]
      exact (h1.1 i (by omega)).2.1.trans (c3 _ (hp i hi))
    · rw [up_k _ _ _ _ _ (by omega), eS i 2 (by omega) (by omega)]
      exact (h1.1 i (by omega)).2.2.trans (c4 _ (hp i hi))
  · exact WR_e f11 hW (fun j hj => eM _ (by omega) (by omega) (by omega) (by omega)) (eF 3 (by omega) (by omega)) (fun j g1 g2 => eF j (by omega) (by omega))
theorem sim12 : Sim12 Rel := by
  intro σ τ x1 hR
  replace hR := Rel_0 hR 0
  unfold fX12_removeScan fX11_removeScan
  have h00 : up τ 0 0 0 0 0 = 0 := up_e _ _ _ _
  generalize up τ 0 0 (0 : Int32) = τ at *
  obtain ⟨k, n, a, b, d, t, hO⟩ := RO_of hR
  obtain ⟨ρ, υ, e1, e2, hO2, u1, u2⟩ := keep_RO hO
  obtain ⟨hr, hF, hV, hL, hC, hW⟩ := hO
  have hd := hF.2.2.2.2.2.2.2.1
  have e10 : ¬ (ι 1 = (0 : Int32)) := by decide
  rcases leaf_cases x1 d with ⟨i, hi, rfl⟩ | hx
  · obtain ⟨r1, r2, r3⟩ := c_scanRow hd hC hi
    have q0 : fX12_ofScan (ι i) (0 : Int32) υ = some (τ 3 (89 + 3 * i)) := by rw [l_0, r_ofScan (by omega) (by omega), u2 3 _ (by omega)]; rfl
    have hu2 : υ 3 2 = ι d := hO2.2.1.2.2.2.2.2.2.1
    have hs3 : ρ 62 3 = ι d := hO2.2.2.2.2.1.2.1
    have ez : ¬ ((2 : Int32) < 0 ∨ lm 3 ≤ (2 : Int32).toNatClampNeg) := by decide
    have en : (2 : Int32).toNatClampNeg = 2 := rfl
    obtain ⟨ρ1, a1, a2⟩ := c_shift (s := i) (t := d - 1) (by omega) (by omega) ρ
    obtain ⟨υ1, b1, b2⟩ := r_goesS (s := i) (t := d - 1) (by omega) (by omega) υ
    have hP := perm_RO (d' := d - 1) hO2 a2 b2 (by omega) (fun j hj => mv_lt (by omega) (by omega) (by omega))
    have hdrop : fX5_dropAt 62 (ι i) ρ = some (up ρ1 62 3 (ι (d - 1))) := by
      unfold fX5_dropAt
      rw [hs3]
      simp (disch := omega) only [l_0, l_1, l_2, l_3, l_4, l_5, l_6, l_7, l_8, l_9, l_10, l_12, l_13, l_24, l_31, l_32, l_40, l_41, l_42, l_44, l_45, l_48, l_49, l_50, l_57, l_59, l_60, l_65, l_88, l_89, l_97, l_98, l_99, l_100, l_105, l_108, l_109, l_114, l_118, l_120, l_122, l_144, l_255, l_269, l_279, l_339, l_400, l_600, l_999, l_1000, l_2373, l_2712, ι_lt, ι_le, ι_eq, ι_add, ι_mul, ι_sub, ι_div, ι_n, ι_m1, m1_ι, m1_lt, m1_le, lt_m1, le_m1, m1_lt_m1, m1_le_m1, m1_add1, neg_ι1, ι_addm, ι_addn, Bool.false_eq_true, Nat.not_lt_zero, Nat.add_zero, Nat.zero_add, Nat.mul_zero, Nat.reduceMul, Nat.reduceAdd, Nat.reduceSub, Nat.reduceLT, Nat.reduceLeDiff, Nat.reduceEqDiff, Nat.reduceDiv, Nat.reduceBEq, Nat.reduceBNe, false_or, or_false, true_or, or_true, and_true, true_and, false_and, and_false, not_false_eq_true, not_true_eq_false, if_true, if_false, if_pos, if_neg, Option.bind_some, ite_false, ite_true, eq_self, reduceIte, a1]
      rw [a2.2 62 (by omega) (by omega) (by omega), hs3, ι_sub (by omega)]
    have hv : υ1 3 2 = ι d := by rw [b2.2 3 2 (by omega)]; exact hu2
    simp only [c_reqScan hd hC hi, r_isScan hF.2.2.2.2.2.2.1 hd (show i < 2147483648 by omega), if_pos hi, Option.bind_some, if_neg e10, Nat.zero_add, e1, e2, r1, q0, hdrop, if_neg ez, en, hu2, l_1, ι_sub (show 1 ≤ d by omega), b1, hv]
    refine ⟨_, _, 0, rfl, rfl, Or.inl ⟨_, rfl, rfl⟩, fun v hv => (by cases hv; rfl), ?_, RO_rel hP⟩
    show up υ1 3 2 (ι (d - 1)) 0 0 = 0
    rw [up_k _ _ _ _ _ (by omega), b2.2 0 0 (by omega), u2 0 0 (by omega)]; exact h00
  · rw [c_reqScan_no hd hC hx, r_isScan_no hF.2.2.2.2.2.2.1 hd hx]
    simp only [Option.bind_some, l_0, if_true, ref_fails]
    exact ⟨_, _, 1, rfl, rfl, Or.inr ⟨rfl, rfl⟩, fun v hv => (by cases hv), z_bad, Rel_0 hR _⟩
theorem sim13 : Sim13 Rel := by
  intro σ τ x1 x2 hR
  replace hR := Rel_0 hR 0
  unfold fX12_moveScan fX11_moveScan
  have h00 : up τ 0 0 0 0 0 = 0 := up_e _ _ _ _
  generalize up τ 0 0 (0 : Int32) = τ at *
  obtain ⟨k, n, a, b, d, t, hO⟩ := RO_of hR
  obtain ⟨ρ, υ, e1, e2, hO2, u1, u2⟩ := keep_RO hO
  obtain ⟨hr, hF, hV, hL, hC, hW⟩ := hO
  have hd := hF.2.2.2.2.2.2.2.1
  have e10 : ¬ (ι 1 = (0 : Int32)) := by decide
  rcases leaf_cases x1 d with ⟨i, hi, rfl⟩ | hx
  · rcases leaf_cases x2 d with ⟨j, hj, rfl⟩ | hx
    · have hu2 : υ 3 2 = ι d := hO2.2.1.2.2.2.2.2.2.1
      have hs3 : ρ 62 3 = ι d := hO2.2.2.2.2.1.2.1
      obtain ⟨ρ1, a1, a2⟩ := c_shift (s := i) (t := j) (by omega) (by omega) ρ
      obtain ⟨υ1, b1, b2⟩ := r_goesS (s := i) (t := j) (by omega) (by omega) υ
      have hP := perm_RO (d' := d) hO2 a2 b2 (Nat.le_refl d) (fun x hx => mv_lt (by omega) (by omega) (by omega))
      rw [show ι d = ρ1 62 3 by rw [a2.2 62 (by omega) (by omega) (by omega), hs3], up_self, show ρ1 62 3 = υ1 3 2 by rw [a2.2 62 (by omega) (by omega) (by omega), hs3, b2.2 3 2 (by omega), hu2], up_self] at hP
      obtain ⟨v, ρ2, ω, c1, c2, c3, c4⟩ := inv_RO hP
      simp only [c_reqScan hd hC hi, c_reqScan hd hC hj, r_isScan hF.2.2.2.2.2.2.1 hd (show i < 2147483648 by omega), r_isScan hF.2.2.2.2.2.2.1 hd (show j < 2147483648 by omega), if_pos hi, if_pos hj, Option.bind_some, if_neg e10, Nat.zero_add, e1, e2, a1, b1, c1, c2]
      refine ⟨_, _, 0, rfl, rfl, Or.inl ⟨_, rfl, rfl⟩, fun v hv => (by cases hv; rfl), ?_, c4⟩
      show ω 0 0 = 0
      rw [c3, b2.2 0 0 (by omega), u2 0 0 (by omega)]; exact h00
    · simp only [c_reqScan hd hC hi, c_reqScan_no hd hC hx, r_isScan hF.2.2.2.2.2.2.1 hd (show i < 2147483648 by omega), if_pos hi, if_neg e10, r_isScan_no hF.2.2.2.2.2.2.1 hd hx, Option.bind_some, l_0, if_true, ref_fails]
      exact ⟨_, _, 1, rfl, rfl, Or.inr ⟨rfl, rfl⟩, fun v hv => (by cases hv), z_bad, Rel_0 hR _⟩
  · rw [c_reqScan_no hd hC hx, r_isScan_no hF.2.2.2.2.2.2.1 hd hx]
    simp only [Option.bind_some, l_0, if_true, ref_fails]
    exact ⟨_, _, 1, rfl, rfl, Or.inr ⟨rfl, rfl⟩, fun v hv => (by cases hv), z_bad, Rel_0 hR _⟩
