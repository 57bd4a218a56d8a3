/-! PURE PART: numbers, memories -/
def ι (n : Nat) : Int32 := Int32.ofNat n
theorem ι_toInt {a : Nat} (h : a < 2147483648) : (ι a).toInt = a := Int32.toInt_ofNat_of_lt h
theorem ι_lt {a b : Nat} (ha : a < 2147483648) (hb : b < 2147483648) : (ι a < ι b) = (a < b) := by
  rw [Int32.lt_iff_toInt_lt, ι_toInt ha, ι_toInt hb]; exact propext (by omega)
theorem ι_le {a b : Nat} (ha : a < 2147483648) (hb : b < 2147483648) : (ι a ≤ ι b) = (a ≤ b) := by
  rw [Int32.le_iff_toInt_le, ι_toInt ha, ι_toInt hb]; exact propext (by omega)
theorem ι_eq {a b : Nat} (ha : a < 2147483648) (hb : b < 2147483648) : (ι a = ι b) = (a = b) := by
  rw [← Int32.toInt_inj, ι_toInt ha, ι_toInt hb]; exact propext (by omega)
theorem ι_add (a b : Nat) : ι a + ι b = ι (a + b) := (Int32.ofNat_add a b).symm
theorem ι_mul (a b : Nat) : ι a * ι b = ι (a * b) := (Int32.ofNat_mul a b).symm
theorem ι_sub {a b : Nat} (h : b ≤ a) : ι a - ι b = ι (a - b) := by
  have e : ι a = ι (a - b) + ι b := by rw [ι_add]; congr 1; omega
  rw [e, Int32.add_sub_cancel]
theorem ι_n {a : Nat} (h : a < 2147483648) : (ι a).toNatClampNeg = a := by
  have e : (ι a).toNatClampNeg = (ι a).toInt.toNat := rfl
  rw [e, ι_toInt h]; rfl
theorem ι_div {a b : Nat} (ha : a < 2147483648) (hb : b < 2147483648) : ι a / ι b = ι (a / b) := by
  have hd : a / b < 2147483648 := Nat.lt_of_le_of_lt (Nat.div_le_self a b) ha
  apply Int32.toInt_inj.mp
  have e : (a : Int).tdiv (b : Int) = ((a / b : Nat) : Int) := rfl
  rw [Int32.toInt_div, ι_toInt ha, ι_toInt hb, ι_toInt hd, e]
  generalize a / b = c at hd
  rw [Int.bmod_eq_of_le (by omega) (by omega)]
def μ : Int32 := -1
theorem μ_toInt : μ.toInt = -1 := rfl
theorem neg_ι1 : -ι 1 = μ := rfl
theorem ι_m1 {a : Nat} (h : a < 2147483648) : (ι a = μ) = False := by
  rw [← Int32.toInt_inj, ι_toInt h, μ_toInt]; exact eq_false (by omega)
theorem m1_ι {a : Nat} (h : a < 2147483648) : (μ = ι a) = False := by
  rw [← ι_m1 h]; exact propext eq_comm
theorem m1_lt {a : Nat} (h : a < 2147483648) : (μ < ι a) = True := by
  rw [Int32.lt_iff_toInt_lt, ι_toInt h, μ_toInt]; exact eq_true (by omega)
theorem m1_le {a : Nat} (h : a < 2147483648) : (μ ≤ ι a) = True := by
  rw [Int32.le_iff_toInt_le, ι_toInt h, μ_toInt]; exact eq_true (by omega)
theorem lt_m1 {a : Nat} (h : a < 2147483648) : (ι a < μ) = False := by
  rw [Int32.lt_iff_toInt_lt, ι_toInt h, μ_toInt]; exact eq_false (by omega)
theorem le_m1 {a : Nat} (h : a < 2147483648) : (ι a ≤ μ) = False := by
  rw [Int32.le_iff_toInt_le, ι_toInt h, μ_toInt]; exact eq_false (by omega)
theorem m1_lt_m1 : (μ < μ) = False := eq_false (by decide)
theorem m1_le_m1 : (μ ≤ μ) = True := eq_true (by decide)
theorem m1_add1 : μ + ι 1 = ι 0 := rfl
theorem ι_addm {a : Nat} (h : 0 < a) : ι a + μ = ι (a - 1) := by
  have e : ι a = ι (a - 1) + ι 1 := by rw [ι_add]; congr 1; omega
  have e1 : ι 1 + μ = 0 := rfl
  rw [e, Int32.add_assoc, e1, Int32.add_zero]
theorem ι_addn {a b : Nat} (h : b ≤ a) : ι a + -ι b = ι (a - b) := by
  rw [← Int32.sub_eq_add_neg, ι_sub h]
theorem ι_cases (x : Int32) : x < ι 0 ∨ ∃ n, n < 2147483648 ∧ x = ι n := by
  rcases Int.lt_or_le x.toInt 0 with q | q
  · exact Or.inl (by rw [Int32.lt_iff_toInt_lt]; exact q)
  · refine Or.inr ⟨x.toInt.toNat, ?_, ?_⟩
    · have := Int32.toInt_lt x; omega
    · apply Int32.toInt_inj.mp
      have := Int32.toInt_lt x
      rw [ι_toInt (by omega)]; omega
theorem l_0 : (0 : Int32) = ι 0 := rfl
theorem l_1 : (1 : Int32) = ι 1 := rfl
theorem l_2 : (2 : Int32) = ι 2 := rfl
theorem l_3 : (3 : Int32) = ι 3 := rfl
theorem l_4 : (4 : Int32) = ι 4 := rfl
theorem l_5 : (5 : Int32) = ι 5 := rfl
theorem l_6 : (6 : Int32) = ι 6 := rfl
theorem l_7 : (7 : Int32) = ι 7 := rfl
theorem l_8 : (8 : Int32) = ι 8 := rfl
theorem l_9 : (9 : Int32) = ι 9 := rfl
theorem l_10 : (10 : Int32) = ι 10 := rfl
theorem l_12 : (12 : Int32) = ι 12 := rfl
theorem l_13 : (13 : Int32) = ι 13 := rfl
theorem l_24 : (24 : Int32) = ι 24 := rfl
theorem l_31 : (31 : Int32) = ι 31 := rfl
theorem l_32 : (32 : Int32) = ι 32 := rfl
theorem l_40 : (40 : Int32) = ι 40 := rfl
theorem l_41 : (41 : Int32) = ι 41 := rfl
theorem l_42 : (42 : Int32) = ι 42 := rfl
theorem l_44 : (44 : Int32) = ι 44 := rfl
theorem l_45 : (45 : Int32) = ι 45 := rfl
theorem l_48 : (48 : Int32) = ι 48 := rfl
theorem l_49 : (49 : Int32) = ι 49 := rfl
theorem l_50 : (50 : Int32) = ι 50 := rfl
theorem l_57 : (57 : Int32) = ι 57 := rfl
theorem l_59 : (59 : Int32) = ι 59 := rfl
theorem l_60 : (60 : Int32) = ι 60 := rfl
theorem l_65 : (65 : Int32) = ι 65 := rfl
theorem l_88 : (88 : Int32) = ι 88 := rfl
theorem l_89 : (89 : Int32) = ι 89 := rfl
theorem l_97 : (97 : Int32) = ι 97 := rfl
theorem l_98 : (98 : Int32) = ι 98 := rfl
theorem l_99 : (99 : Int32) = ι 99 := rfl
theorem l_100 : (100 : Int32) = ι 100 := rfl
theorem l_105 : (105 : Int32) = ι 105 := rfl
theorem l_108 : (108 : Int32) = ι 108 := rfl
theorem l_109 : (109 : Int32) = ι 109 := rfl
theorem l_114 : (114 : Int32) = ι 114 := rfl
theorem l_118 : (118 : Int32) = ι 118 := rfl
theorem l_120 : (120 : Int32) = ι 120 := rfl
theorem l_122 : (122 : Int32) = ι 122 := rfl
theorem l_144 : (144 : Int32) = ι 144 := rfl
theorem l_255 : (255 : Int32) = ι 255 := rfl
theorem l_269 : (269 : Int32) = ι 269 := rfl
theorem l_279 : (279 : Int32) = ι 279 := rfl
theorem l_339 : (339 : Int32) = ι 339 := rfl
theorem l_400 : (400 : Int32) = ι 400 := rfl
theorem l_600 : (600 : Int32) = ι 600 := rfl
theorem l_999 : (999 : Int32) = ι 999 := rfl
theorem l_1000 : (1000 : Int32) = ι 1000 := rfl
theorem l_2373 : (2373 : Int32) = ι 2373 := rfl
theorem l_2712 : (2712 : Int32) = ι 2712 := rfl
theorem lm_0 : lm 0 = 0 := rfl
theorem lm_1 : lm 1 = 8 := rfl
theorem lm_2 : lm 2 = 8 := rfl
theorem lm_3 : lm 3 = 339 := rfl
theorem lm_4 : lm 4 = 339 := rfl
theorem lm_5 : lm 5 = 339 := rfl
theorem lm_6 : lm 6 = 2712 := rfl
theorem lm_7 : lm 7 = 600 := rfl
theorem lm_8 : lm 8 = 576 := rfl
theorem lm_9 : lm 9 = 400 := rfl
theorem lm_10 : lm 10 = 400 := rfl
theorem lm_11 : lm 11 = 13 := rfl
theorem lm_12 : lm 12 = 2 := rfl
theorem lm_13 : lm 13 = 60 := rfl
theorem lm_14 : lm 14 = 60 := rfl
theorem lm_15 : lm 15 = 60 := rfl
theorem lm_16 : lm 16 = 400 := rfl
theorem lm_17 : lm 17 = 60 := rfl
theorem up_e (σ : Mem) (k j : Nat) (v : Int32) : up σ k j v k j = v := by simp [up, upd]
theorem up_j (σ : Mem) (k j : Nat) (v : Int32) (i : Nat) (h : i ≠ j) : up σ k j v k i = σ k i := by simp [up, upd, h]
theorem up_k (σ : Mem) (k j : Nat) (v : Int32) (a : Nat) (h : a ≠ k) : up σ k j v a = σ a := by simp [up, h]
theorem up_g (σ : Mem) (k j : Nat) (v : Int32) (a i : Nat) : up σ k j v a i = if a = k ∧ i = j then v else σ a i := by
  by_cases h : a = k
  · subst h
    by_cases hj : i = j
    · subst hj; simp [up_e]
    · rw [up_j _ _ _ _ _ hj]; simp [hj]
  · rw [up_k _ _ _ _ _ h]; simp [h]
theorem up_self (σ : Mem) (k j : Nat) : up σ k j (σ k j) = σ := by
  funext a i
  rw [up_g]; by_cases h : a = k ∧ i = j
  · rw [if_pos h, h.1, h.2]
  · rw [if_neg h]
def cf (P : Nat → Bool) : Nat → Nat → Nat
  | _, 0 => 0
  | i, m + 1 => (if P i then 1 else 0) + cf P (i + 1) m
def ff (P : Nat → Bool) : Nat → Nat → Option Nat
  | _, 0 => none
  | i, m + 1 => if P i then some i else ff P (i + 1) m
def oi : Option Nat → Int32
  | some n => ι n
  | none => μ
theorem cf_le (P : Nat → Bool) : ∀ m i, cf P i m ≤ m
  | 0, i => Nat.le_refl 0
  | m + 1, i => by have := cf_le P m (i + 1); simp only [cf]; split <;> omega
theorem cf_last (P : Nat → Bool) : ∀ m i, cf P i (m + 1) = cf P i m + (if P (i + m) then 1 else 0)
  | 0, i => by simp [cf]
  | m + 1, i => by
    rw [cf, cf_last P m (i + 1), cf]
    have e : i + 1 + m = i + (m + 1) := by omega
    rw [e]; omega
theorem cf_congr {P Q : Nat → Bool} : ∀ m i, (∀ k, i ≤ k → k < i + m → P k = Q k) → cf P i m = cf Q i m
  | 0, i, _ => rfl
  | m + 1, i, h => by
    rw [cf, cf, h i (by omega) (by omega), cf_congr m (i + 1) (fun k h1 h2 => h k (by omega) (by omega))]
theorem ff_congr {P Q : Nat → Bool} : ∀ m i, (∀ k, i ≤ k → k < i + m → P k = Q k) → ff P i m = ff Q i m
  | 0, i, _ => rfl
  | m + 1, i, h => by
    rw [ff, ff, h i (by omega) (by omega), ff_congr m (i + 1) (fun k h1 h2 => h k (by omega) (by omega))]
theorem ff_some {P : Nat → Bool} : ∀ m i {n}, ff P i m = some n → i ≤ n ∧ n < i + m ∧ P n = true ∧ ∀ k, i ≤ k → k < n → P k = false
  | 0, i, n, h => by simp [ff] at h
  | m + 1, i, n, h => by
    rw [ff] at h
    by_cases hp : P i = true
    · rw [if_pos hp] at h; cases h; exact ⟨Nat.le_refl _, by omega, hp, fun k h1 h2 => by omega⟩
    · rw [if_neg hp] at h
      have := ff_some m (i + 1) h
      refine ⟨by omega, by omega, this.2.2.1, fun k h1 h2 => ?_⟩
      rcases Nat.lt_or_ge i k with q | q
      · exact this.2.2.2 k q h2
      · have e : k = i := by omega
        rw [e]; simpa using hp
theorem ff_none {P : Nat → Bool} : ∀ m i, ff P i m = none → ∀ k, i ≤ k → k < i + m → P k = false
  | 0, i, h, k, h1, h2 => by omega
  | m + 1, i, h, k, h1, h2 => by
    rw [ff] at h
    by_cases hp : P i = true
    · rw [if_pos hp] at h; cases h
    · rw [if_neg hp] at h
      rcases Nat.lt_or_ge i k with q | q
      · exact ff_none m (i + 1) h k q (by omega)
      · have e : k = i := by omega
        rw [e]; simpa using hp
theorem ff_is {P : Nat → Bool} {m i n : Nat} (h1 : i ≤ n) (h2 : n < i + m) (h3 : P n = true) (h4 : ∀ k, i ≤ k → k < n → P k = false) : ff P i m = some n := by
  cases h : ff P i m with
  | none => have := ff_none m i h n h1 h2; rw [h3] at this; cases this
  | some q =>
    have := ff_some m i h
    rcases Nat.lt_trichotomy q n with z | z | z
    · have t := h4 q this.1 z; rw [this.2.2.1] at t; cases t
    · rw [z]
    · have t := this.2.2.2 n h1 z; rw [h3] at t; cases t
theorem ff_no {P : Nat → Bool} {m i : Nat} (h : ∀ k, i ≤ k → k < i + m → P k = false) : ff P i m = none := by
  cases hh : ff P i m with
  | none => rfl
  | some q => have := ff_some m i hh; rw [h q this.1 this.2.1] at this; cases this.2.2.1
