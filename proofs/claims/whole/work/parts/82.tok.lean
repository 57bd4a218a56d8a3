/-! PURE PART: tokens -/
def BC (B : Nat → Nat) (m : Nat) (σ : Mem) : Prop := m ≤ 600 ∧ σ 33 1 = ι m ∧ ∀ i, i < m → B i < 256 ∧ σ 34 i = ι (B i)
def BR (B : Nat → Nat) (m : Nat) (τ : Mem) : Prop := m ≤ 600 ∧ τ 0 12 = ι m ∧ ∀ i, i < m → B i < 256 ∧ τ 7 i = sx (B i)
theorem BC_c {B : Nat → Nat} {m : Nat} {σ ρ : Mem} (h : BC B m σ) (h1 : ρ 33 = σ 33) (h2 : ρ 34 = σ 34) : BC B m ρ := by
  unfold BC at *; rw [h1, h2]; exact h
theorem BR_c {B : Nat → Nat} {m : Nat} {σ ρ : Mem} (h : BR B m σ) (h1 : ρ 0 12 = σ 0 12) (h2 : ρ 7 = σ 7) : BR B m ρ := by
  unfold BR at *; rw [h1, h2]; exact h
def Kd (B : Nat → Nat) (m i : Nat) : Nat := if m ≤ i then 0 else if 97 ≤ B i ∧ B i ≤ 122 then 1 else if 48 ≤ B i ∧ B i ≤ 57 then 2 else 3
def Skp (B : Nat → Nat) (m e : Nat) : Nat := (ff (fun i => decide (B i ≠ 32)) e (m - e)).getD m
def Tk (B : Nat → Nat) (m s : Nat) : Nat := if Kd B m s = 3 then s + 1 else (ff (fun i => decide (Kd B m i ≠ Kd B m s)) s (m - s)).getD m
theorem Kd_lt (B : Nat → Nat) (m i : Nat) : Kd B m i < 4 := by unfold Kd; repeat' split
                                                               all_goals omega
theorem Kd_0 {B : Nat → Nat} {m i : Nat} : Kd B m i = 0 ↔ m ≤ i := by
  unfold Kd; constructor
  · intro h
    by_cases c : m ≤ i
    · exact c
    · rw [if_neg c] at h; revert h; repeat' split
      all_goals omega
  · intro h; rw [if_pos h]
theorem Kd_1 {B : Nat → Nat} {m i : Nat} : Kd B m i = 1 ↔ i < m ∧ 97 ≤ B i ∧ B i ≤ 122 := by
  unfold Kd; repeat' split
  all_goals omega
theorem Kd_2 {B : Nat → Nat} {m i : Nat} : Kd B m i = 2 ↔ i < m ∧ 48 ≤ B i ∧ B i ≤ 57 := by
  unfold Kd; repeat' split
  all_goals omega
theorem Skp_spec {B : Nat → Nat} {m e : Nat} (he : e ≤ m) : e ≤ Skp B m e ∧ Skp B m e ≤ m ∧ (∀ i, e ≤ i → i < Skp B m e → B i = 32) ∧ (Skp B m e < m → B (Skp B m e) ≠ 32) := by
  unfold Skp
  cases h : ff (fun i => decide (B i ≠ 32)) e (m - e) with
  | none =>
    have g := ff_none _ _ h
    show e ≤ m ∧ m ≤ m ∧ (∀ i, e ≤ i → i < m → B i = 32) ∧ (m < m → B m ≠ 32)
    refine ⟨he, Nat.le_refl _, fun i h1 h2 => ?_, fun z => absurd z (Nat.lt_irrefl _)⟩
    have := g i h1 (by omega)
    simpa using this
  | some x =>
    have g := ff_some _ _ h
    show e ≤ x ∧ x ≤ m ∧ (∀ i, e ≤ i → i < x → B i = 32) ∧ (x < m → B x ≠ 32)
    refine ⟨g.1, by have := g.2.1; omega, fun i h1 h2 => ?_, fun _ => ?_⟩
    · have := g.2.2.2 i h1 h2; simpa using this
    · have := g.2.2.1; simpa using this
theorem Skp_is {B : Nat → Nat} {m e s : Nat} (he : e ≤ s) (hs : s ≤ m) (h1 : ∀ i, e ≤ i → i < s → B i = 32) (h2 : s < m → B s ≠ 32) : Skp B m e = s := by
  obtain ⟨g1, g2, g3, g4⟩ := Skp_spec (B := B) (show e ≤ m by omega)
  rcases Nat.lt_trichotomy (Skp B m e) s with z | z | z
  · exact absurd (h1 _ g1 z) (g4 (by omega))
  · exact z
  · exact absurd (g3 s he z) (h2 (by omega))
theorem Skp_mid {B : Nat → Nat} {m e x : Nat} (he : e ≤ x) (hx : x ≤ Skp B m e) (hm : e ≤ m) : Skp B m x = Skp B m e := by
  obtain ⟨g1, g2, g3, g4⟩ := Skp_spec (B := B) hm
  exact Skp_is hx g2 (fun i h1 h2 => g3 i (by omega) h2) g4
theorem Skp_idem {B : Nat → Nat} {m e : Nat} (hm : e ≤ m) : Skp B m (Skp B m e) = Skp B m e := Skp_mid (Skp_spec hm).1 (Nat.le_refl _) hm
theorem Tk_spec {B : Nat → Nat} {m s : Nat} (hs : s ≤ m) : s ≤ Tk B m s ∧ Tk B m s ≤ m ∧ (Kd B m s ≠ 3 → (∀ i, s ≤ i → i < Tk B m s → Kd B m i = Kd B m s) ∧ (Kd B m (Tk B m s) ≠ Kd B m s ∨ Tk B m s = m)) ∧ (Kd B m s ≠ 0 → s < Tk B m s) := by
  unfold Tk
  by_cases h3 : Kd B m s = 3
  · rw [if_pos h3]
    have : ¬ m ≤ s := fun z => by have := (Kd_0 (B := B)).mpr z; omega
    exact ⟨by omega, by omega, fun z => absurd h3 z, fun _ => by omega⟩
  · rw [if_neg h3]
    cases h : ff (fun i => decide (Kd B m i ≠ Kd B m s)) s (m - s) with
    | none =>
      have g := ff_none _ _ h
      show s ≤ m ∧ m ≤ m ∧ (Kd B m s ≠ 3 → (∀ i, s ≤ i → i < m → Kd B m i = Kd B m s) ∧ (Kd B m m ≠ Kd B m s ∨ m = m)) ∧ (Kd B m s ≠ 0 → s < m)
      refine ⟨hs, Nat.le_refl _, fun _ => ⟨fun i h1 h2 => ?_, Or.inr rfl⟩, fun z => ?_⟩
      · have := g i h1 (by omega)
        simpa using this
      · have : ¬ m ≤ s := fun y => z (Kd_0.mpr y)
        omega
    | some x =>
      have g := ff_some _ _ h
      show s ≤ x ∧ x ≤ m ∧ (Kd B m s ≠ 3 → (∀ i, s ≤ i → i < x → Kd B m i = Kd B m s) ∧ (Kd B m x ≠ Kd B m s ∨ x = m)) ∧ (Kd B m s ≠ 0 → s < x)
      have gx : Kd B m x ≠ Kd B m s := by have := g.2.2.1; simpa using this
      refine ⟨g.1, by have := g.2.1; omega, fun _ => ⟨fun i h1 h2 => ?_, Or.inl gx⟩, fun z => ?_⟩
      · have := g.2.2.2 i h1 h2; simpa using this
      · rcases Nat.lt_or_ge s x with y | y
        · exact y
        · have e : x = s := by have := g.1; omega
          rw [e] at gx; exact absurd rfl gx
def nm (B : Nat → Nat) : Nat → Nat → Nat → Nat
  | _, 0, a => a
  | x, d + 1, a => nm B (x + 1) d (10 * a + B x - 48)
theorem nm_lt {B : Nat → Nat} : ∀ d x a, (∀ i, x ≤ i → i < x + d → 48 ≤ B i ∧ B i ≤ 57) → nm B x d a < (a + 1) * 10 ^ d
  | 0, x, a, h => by rw [nm]; omega
  | d + 1, x, a, h => by
    rw [nm]
    have g := nm_lt d (x + 1) (10 * a + B x - 48) (fun i h1 h2 => h i (by omega) (by omega))
    have hx := h x (by omega) (by omega)
    refine Nat.lt_of_lt_of_le g ?_
    rw [Nat.pow_succ, Nat.mul_comm (10 ^ d) 10, ← Nat.mul_assoc]
    exact Nat.mul_le_mul_right _ (by omega)
def nv (B : Nat → Nat) (m s : Nat) : Option Nat := if Kd B m s = 2 ∧ Tk B m s - s ≤ 4 then some (nm B s (Tk B m s - s) 0) else none
theorem nv_lt {B : Nat → Nat} {m s v : Nat} (hs : s ≤ m) (h : nv B m s = some v) : v < 10000 := by
  unfold nv at h
  by_cases c : Kd B m s = 2 ∧ Tk B m s - s ≤ 4
  · rw [if_pos c] at h
    cases h
    obtain ⟨t1, t2, t3, t4⟩ := Tk_spec (B := B) hs
    have g := nm_lt (B := B) (Tk B m s - s) s 0 (fun i h1 h2 => by
      have := (t3 (by omega)).1 i h1 (by omega)
      rw [c.1] at this
      exact (Kd_2.mp this).2)
    have p : 10 ^ (Tk B m s - s) ≤ 10 ^ 4 := Nat.pow_le_pow_right (by omega) c.2
    have e : (10 : Nat) ^ 4 = 10000 := rfl
    rw [Nat.zero_add, Nat.one_mul] at g
    omega
  · rw [if_neg c] at h; cases h
def CT (B : Nat → Nat) (m : Nat) (σ : Mem) (s : Nat) : Prop := s ≤ m ∧ σ 1 2 = ι (Kd B m s) ∧ σ 1 3 = ι s ∧ σ 1 4 = ι (Tk B m s) ∧ σ 1 5 = oi (nv B m s)
theorem CT_c {B : Nat → Nat} {m s : Nat} {σ ρ : Mem} (h : CT B m σ s) (e : ρ 1 = σ 1) : CT B m ρ s := by
  unfold CT at *; rw [e]; exact h
def bv (B : Nat → Nat) (m i : Nat) : Int32 := if m ≤ i then μ else ι (B i)
theorem c_byte {B : Nat → Nat} {m i : Nat} {σ : Mem} (h : BC B m σ) (hi : i < 2147483648) : fX8_byteAt 33 (ι i) σ = some (bv B m i) := by
  unfold bv
  by_cases c : m ≤ i
  · rw [if_pos c, c_byteAt_no h.1 h.2.1 c hi]
  · rw [if_neg c, c_byteAt ln34 (by omega) h.1 h.2.1 (by omega), (h.2.2 i (by omega)).2]
theorem c_kind {B : Nat → Nat} {m i : Nat} {σ ρ : Mem} (h : BC B m σ) : fX6_kindOf (bv B m i) ρ = some (ι (Kd B m i)) := by
  unfold fX6_kindOf bv Kd
  by_cases c : m ≤ i
  · rw [if_pos c, if_pos c, if_pos (by rfl)]; rfl
  · rw [if_neg c, if_neg c]
    have := (h.2.2 i (by omega)).1
    simp (disch := omega) only [l_0, l_1, l_2, l_3, l_4, l_5, l_6, l_7, l_8, l_9, l_10, l_12, l_13, l_24, l_31, l_32, l_40, l_41, l_42, l_44, l_45, l_48, l_49, l_50, l_57, l_59, l_60, l_65, l_88, l_89, l_97, l_98, l_99, l_100, l_105, l_108, l_109, l_114, l_118, l_120, l_122, l_144, l_255, l_269, l_279, l_339, l_400, l_600, l_999, l_1000, l_2373, l_2712, ι_lt, ι_le, ι_eq, ι_add, ι_mul, ι_sub, ι_div, ι_n, ι_m1, m1_ι, m1_lt, m1_le, lt_m1, le_m1, m1_lt_m1, m1_le_m1, m1_add1, neg_ι1, ι_addm, ι_addn, Bool.false_eq_true, Nat.not_lt_zero, Nat.add_zero, Nat.zero_add, Nat.mul_zero, Nat.reduceMul, Nat.reduceAdd, Nat.reduceSub, Nat.reduceLT, Nat.reduceLeDiff, Nat.reduceEqDiff, Nat.reduceDiv, Nat.reduceBEq, Nat.reduceBNe, false_or, or_false, true_or, or_true, and_true, true_and, false_and, and_false, not_false_eq_true, not_true_eq_false, if_true, if_false, if_pos, if_neg, Option.bind_some, ite_false, ite_true, eq_self, reduceIte]
    repeat' split
    all_goals first | rfl | omega
theorem c_l8 {B : Nat → Nat} {m t : Nat} (ht : t ≤ m) (h2 : t < m → B t ≠ 32) : ∀ d n x (σ : Mem), x + d = t → d < n → (∀ i, x ≤ i → i < t → B i = 32) → BC B m σ → σ 1 3 = ι x → ∃ ρ, fX6_nextToken_l8 1 n σ = some ρ ∧ ρ 1 3 = ι t ∧ ∀ k j, ¬ (k = 1 ∧ j = 3) → ρ k j = σ k j := by
  intro d
  induction d with
  | zero =>
    intro n x σ hx hn hsp hB h3
    obtain ⟨n, rfl⟩ : ∃ k, n = k + 1 := ⟨n - 1, by omega⟩
    have hm := hB.1
    have e : x = t := by omega
    subst e
    refine ⟨σ, ?_, h3, fun _ _ _ => rfl⟩
    rw [fX6_nextToken_l8]
    unfold fX8_size
    rw [show 1 + 32 = 33 from rfl, Option.bind_some, hB.2.1, h3, c_byte hB (by omega), Option.bind_some]
    by_cases c : m ≤ x
    · rw [if_pos (by rw [ι_le (by omega) (by omega)]; exact c)]
    · have hb := hB.2.2 x (by omega)
      rw [if_neg (by rw [ι_le (by omega) (by omega)]; exact c), if_neg]
      unfold bv
      rw [if_neg c, l_32, ι_eq (by omega) (by omega)]
      exact h2 (by omega)
  | succ d ih =>
    intro n x σ hx hn hsp hB h3
    obtain ⟨n, rfl⟩ : ∃ k, n = k + 1 := ⟨n - 1, by omega⟩
    have hm := hB.1
    obtain ⟨ρ, a1, a2, a3⟩ := ih n (x + 1) (up σ 1 3 (ι (x + 1))) (by omega) (by omega) (fun i g1 g2 => hsp i (by omega) g2) (BC_c hB (up_k _ _ _ _ _ (by omega)) (up_k _ _ _ _ _ (by omega))) (up_e _ _ _ _)
    refine ⟨ρ, ?_, a2, fun k j hk => by rw [a3 k j hk, up_g, if_neg hk]⟩
    rw [fX6_nextToken_l8]
    unfold fX8_size
    rw [show 1 + 32 = 33 from rfl, Option.bind_some, hB.2.1, h3, c_byte hB (by omega), Option.bind_some, if_neg (by rw [ι_le (by omega) (by omega)]; omega), if_pos (by unfold bv; rw [if_neg (by omega), hsp x (by omega) (by omega)]; rfl), l_1, ι_add]
    exact a1
theorem c_l95 {B : Nat → Nat} {m t kd : Nat} (ht : t ≤ m) (hk : kd ≠ 3) (hk4 : kd < 4) (h2 : Kd B m t ≠ kd ∨ t = m) : ∀ d n x (σ : Mem), x + d = t → d < n → (∀ i, x ≤ i → i < t → Kd B m i = kd) → BC B m σ → σ 1 4 = ι x → σ 1 2 = ι kd → ∃ ρ, fX6_nextToken_l95 1 n σ = some ρ ∧ ρ 1 4 = ι t ∧ ∀ k j, ¬ (k = 1 ∧ j = 4) → ρ k j = σ k j := by
  have hk3 : ¬ ι kd = (3 : Int32) := by rw [l_3, ι_eq (by omega) (by omega)]; exact hk
  intro d
  induction d with
  | zero =>
    intro n x σ hx hn hsp hB h4 hkd
    obtain ⟨n, rfl⟩ : ∃ k, n = k + 1 := ⟨n - 1, by omega⟩
    have hm := hB.1
    have e : x = t := by omega
    subst e
    refine ⟨σ, ?_, h4, fun _ _ _ => rfl⟩
    rw [fX6_nextToken_l95]
    unfold fX8_size
    rw [show 1 + 32 = 33 from rfl, Option.bind_some, hB.2.1, h4, hkd, c_byte hB (by omega), Option.bind_some, c_kind hB, Option.bind_some, if_neg hk3]
    by_cases c : m ≤ x
    · rw [if_pos (by rw [ι_le (by omega) (by omega)]; exact c)]
    · have hl := Kd_lt B m x
      rw [if_neg (by rw [ι_le (by omega) (by omega)]; exact c), if_neg]
      rw [ι_eq (by omega) (by omega)]
      omega
  | succ d ih =>
    intro n x σ hx hn hsp hB h4 hkd
    obtain ⟨n, rfl⟩ : ∃ k, n = k + 1 := ⟨n - 1, by omega⟩
    have hm := hB.1
    obtain ⟨ρ, a1, a2, a3⟩ := ih n (x + 1) (up σ 1 4 (ι (x + 1))) (by omega) (by omega) (fun i g1 g2 => hsp i (by omega) g2) (BC_c hB (up_k _ _ _ _ _ (by omega)) (up_k _ _ _ _ _ (by omega))) (up_e _ _ _ _) (by rw [up_j _ _ _ _ _ (by omega)]; exact hkd)
    refine ⟨ρ, ?_, a2, fun k j hk => by rw [a3 k j hk, up_g, if_neg hk]⟩
    rw [fX6_nextToken_l95]
    unfold fX8_size
    rw [show 1 + 32 = 33 from rfl, Option.bind_some, hB.2.1, h4, hkd, c_byte hB (by omega), Option.bind_some, c_kind hB, Option.bind_some, if_neg hk3, if_neg (by rw [ι_le (by omega) (by omega)]; omega), if_pos (by rw [hsp x (by omega) (by omega)]), l_1, ι_add]
    exact a1
theorem c_l22 {B : Nat → Nat} {m t : Nat} {σ : Mem} (ht : t ≤ m) (hB : BC B m σ) (h4 : σ 1 4 = ι t) : ∀ d n x a, x + d = t → d < n → (∀ i, x ≤ i → i < t → 48 ≤ B i) → fX6_numberRead_l22 1 n (ι a) (ι x) σ = some (ι (nm B x d a), ι t) := by
  have hm := hB.1
  intro m
  induction m with
  | zero =>
    intro n x a h hn hd
    obtain ⟨n, rfl⟩ : ∃ k, n = k + 1 := ⟨n - 1, by omega⟩
    rw [fX6_numberRead_l22]
    rw [h4, if_pos (by rw [ι_le (by omega) (by omega)]; omega), nm]
    have e : x = t := by omega
    rw [e]
  | succ m ih =>
    intro n x a h hn hd
    obtain ⟨n, rfl⟩ : ∃ k, n = k + 1 := ⟨n - 1, by omega⟩
    rw [fX6_numberRead_l22]
    have hx := hd x (by omega) (by omega)
    rw [h4, if_neg (by rw [ι_le (by omega) (by omega)]; omega), show 1 + 32 = 33 from rfl, c_byte hB (by omega), Option.bind_some]
    unfold bv
    rw [if_neg (by omega), l_10, l_48, l_1, ι_mul, ι_add, ι_sub (by omega), ι_add, nm]
    exact ih n (x + 1) _ (by omega) (by omega) (fun i g1 g2 => hd i (by omega) g2)
theorem c_num {B : Nat → Nat} {m s : Nat} {σ : Mem} (hs : s ≤ m) (hB : BC B m σ) (hk : Kd B m s = 2) (h3 : σ 1 3 = ι s) (h4 : σ 1 4 = ι (Tk B m s)) : fX6_numberRead 1 σ = some (oi (nv B m s)) := by
  obtain ⟨t1, t2, t3, t4⟩ := Tk_spec (B := B) hs
  have hm := hB.1
  unfold fX6_numberRead nv
  rw [h3, h4, ι_sub t1, l_4, ite_le (by omega) (by omega)]
  by_cases c : Tk B m s - s ≤ 4
  · rw [if_pos c, if_pos ⟨hk, c⟩, l_0, c_l22 t2 hB h4 (Tk B m s - s) FU s 0 (by omega) (by unfold FU; omega) (fun i g1 g2 => by
      have := (t3 (by omega)).1 i g1 g2
      rw [hk] at this
      exact (Kd_2.mp this).2.1), Option.bind_some]
    rfl
  · rw [if_neg c, if_neg (fun z => c z.2)]; rfl
theorem c_next {B : Nat → Nat} {m e : Nat} {σ : Mem} (hB : BC B m σ) (he : σ 1 4 = ι e) (hem : e ≤ m) : ∃ ρ, fX6_nextToken 1 σ = some ρ ∧ CT B m ρ (Skp B m e) ∧ ∀ j, j ≠ 1 → ρ j = σ j := by
  obtain ⟨s1, s2, s3, s4⟩ := Skp_spec (B := B) hem
  have hm := hB.1
  obtain ⟨ρ1, a1, a2, a3⟩ := c_l8 s2 s4 (Skp B m e - e) FU e (up σ 1 3 (ι e)) (by omega) (by unfold FU; omega) s3 (BC_c hB (up_k _ _ _ _ _ (by omega)) (up_k _ _ _ _ _ (by omega))) (up_e _ _ _ _)
  generalize Skp B m e = s at *
  obtain ⟨t1, t2, t3, t4⟩ := Tk_spec (B := B) s2
  have f1 : ∀ j, j ≠ 1 → ρ1 j = σ j := fun j hj => funext fun i => by rw [a3 j i (by omega), up_k _ _ _ _ _ hj]
  have hB1 : BC B m ρ1 := BC_c hB (f1 33 (by omega)) (f1 34 (by omega))
  have hkl := Kd_lt B m s
  unfold fX6_nextToken fX6_nextToken_j51
  rw [he, a1, Option.bind_some, show 1 + 32 = 33 from rfl, a2, c_byte hB1 (by omega), Option.bind_some, c_kind hB1, Option.bind_some]
  have e13 : up ρ1 1 2 (ι (Kd B m s)) 1 3 = ι s := by rw [up_j _ _ _ _ _ (by omega)]; exact a2
  rw [e13]
  have e12 : up (up ρ1 1 2 (ι (Kd B m s))) 1 4 (ι s) 1 2 = ι (Kd B m s) := by rw [up_j _ _ _ _ _ (by omega), up_e]
  have e14 : up (up ρ1 1 2 (ι (Kd B m s))) 1 4 (ι s) 1 4 = ι s := up_e _ _ _ _
  have e15 : up (up ρ1 1 2 (ι (Kd B m s))) 1 4 (ι s) 1 3 = ι s := by rw [up_j _ _ _ _ _ (by omega)]; exact e13
  have f2 : ∀ j, j ≠ 1 → up (up ρ1 1 2 (ι (Kd B m s))) 1 4 (ι s) j = σ j := fun j hj => by rw [up_k _ _ _ _ _ hj, up_k _ _ _ _ _ hj]; exact f1 j hj
  rw [e12, e14]
  generalize up (up ρ1 1 2 (ι (Kd B m s))) 1 4 (ι s) = ρ2 at *
  by_cases h3 : Kd B m s = 3
  · rw [if_pos (by rw [h3]; rfl), l_1, ι_add]
    have b2 : up ρ2 1 4 (ι (s + 1)) 1 2 = ι (Kd B m s) := by rw [up_j _ _ _ _ _ (by omega)]; exact e12
    have b3 : up ρ2 1 4 (ι (s + 1)) 1 3 = ι s := by rw [up_j _ _ _ _ _ (by omega)]; exact e15
    have b4 : up ρ2 1 4 (ι (s + 1)) 1 4 = ι (s + 1) := up_e _ _ _ _
    have f3 : ∀ j, j ≠ 1 → up ρ2 1 4 (ι (s + 1)) j = σ j := fun j hj => by rw [up_k _ _ _ _ _ hj]; exact f2 j hj
    generalize up ρ2 1 4 (ι (s + 1)) = ρ3 at *
    have c : fX6_nextToken_l95 1 FU ρ3 = some ρ3 := by
      rw [show FU = 4095 + 1 from rfl, fX6_nextToken_l95]
      unfold fX8_size
      rw [Option.bind_some, b2, if_pos (show ι (Kd B m s) = (3 : Int32) by rw [h3]; rfl)]
      split <;> rfl
    rw [c, Option.bind_some, b2, if_neg (by rw [h3]; decide)]
    refine ⟨_, rfl, ⟨s2, ?_, ?_, ?_, ?_⟩, fun j hj => by rw [up_k _ _ _ _ _ hj]; exact f3 j hj⟩
    · rw [up_j _ _ _ _ _ (by omega)]; exact b2
    · rw [up_j _ _ _ _ _ (by omega)]; exact b3
    · rw [up_j _ _ _ _ _ (by omega), b4]; unfold Tk; rw [if_pos h3]
    · rw [up_e]; unfold nv; rw [if_neg (fun z => by omega)]; rfl
  · rw [if_neg (by rw [l_3, ι_eq (by omega) (by omega)]; exact h3)]
    obtain ⟨g1, g2⟩ := t3 h3
    obtain ⟨ρ3, c1, c2, c3⟩ := c_l95 t2 h3 hkl g2 (Tk B m s - s) FU s ρ2 (by omega) (by unfold FU; omega) g1 (BC_c hB (f2 33 (by omega)) (f2 34 (by omega))) e14 e12
    have f3 : ∀ j, j ≠ 1 → ρ3 j = σ j := fun j hj => funext fun i => by rw [c3 j i (by omega), f2 j hj]
    have d2 : ρ3 1 2 = ι (Kd B m s) := (c3 1 2 (by omega)).trans e12
    have d3 : ρ3 1 3 = ι s := (c3 1 3 (by omega)).trans e15
    rw [c1, Option.bind_some, d2]
    by_cases h2 : Kd B m s = 2
    · rw [if_pos (by rw [h2]; rfl), c_num s2 (BC_c hB (f3 33 (by omega)) (f3 34 (by omega))) h2 d3 c2, Option.bind_some]
      refine ⟨_, rfl, ⟨s2, ?_, ?_, ?_, up_e _ _ _ _⟩, fun j hj => by rw [up_k _ _ _ _ _ hj]; exact f3 j hj⟩
      · rw [up_j _ _ _ _ _ (by omega)]; exact d2
      · rw [up_j _ _ _ _ _ (by omega)]; exact d3
      · rw [up_j _ _ _ _ _ (by omega)]; exact c2
    · rw [if_neg (by rw [l_2, ι_eq (by omega) (by omega)]; exact h2)]
      refine ⟨_, rfl, ⟨s2, ?_, ?_, ?_, ?_⟩, fun j hj => by rw [up_k _ _ _ _ _ hj]; exact f3 j hj⟩
      · rw [up_j _ _ _ _ _ (by omega)]; exact d2
      · rw [up_j _ _ _ _ _ (by omega)]; exact d3
      · rw [up_j _ _ _ _ _ (by omega)]; exact c2
      · rw [up_e]; unfold nv; rw [if_neg (fun z => h2 z.1)]; rfl
theorem c_nextT {B : Nat → Nat} {m s : Nat} {σ : Mem} (hB : BC B m σ) (hT : CT B m σ s) : ∃ ρ, fX6_nextToken 1 σ = some ρ ∧ CT B m ρ (Skp B m (Tk B m s)) ∧ BC B m ρ ∧ ∀ j, j ≠ 1 → ρ j = σ j := by
  obtain ⟨ρ, a1, a2, a3⟩ := c_next hB hT.2.2.2.1 (Tk_spec hT.1).2.1
  exact ⟨ρ, a1, a2, BC_c hB (a3 33 (by omega)) (a3 34 (by omega)), a3⟩
def wln (w : Nat) : Nat := (bytL.getD w []).length
def wq (B : Nat → Nat) (w s i : Nat) : Bool := decide (ι (B (s + i)) ≠ (bytL.getD w []).getD i 0)
def isW (B : Nat → Nat) (m w s : Nat) : Bool := decide (Kd B m s = 1 ∧ Tk B m s = s + wln w ∧ ff (wq B w s) 0 (wln w) = none)
theorem c_l28 {B : Nat → Nat} {M s w : Nat} {σ : Mem} (hB : BC B M σ) (h3 : σ 1 3 = ι s) (hw : s + wln w ≤ M) : ∀ d n i, i + d = wln w → d < n → (fX6_isWord_l28 1 w n (ι i) σ).bind (fun q28 => match q28 with | .inl r => some r | .inr q28 => some (1 : Int32)) = some (if ff (wq B w s) i d = none then ι 1 else ι 0) := by
  have hm := hB.1
  have el : Int32.ofNat (bytL.getD w []).length = ι (wln w) := rfl
  have el2 : (bytL.getD w []).length = wln w := rfl
  intro m
  induction m with
  | zero =>
    intro n i h hn
    obtain ⟨n, rfl⟩ : ∃ k, n = k + 1 := ⟨n - 1, by omega⟩
    rw [fX6_isWord_l28]
    rw [el, if_pos (by rw [ι_le (by omega) (by omega)]; omega), ff, if_pos rfl]; rfl
  | succ m ih =>
    intro n i h hn
    obtain ⟨n, rfl⟩ : ∃ k, n = k + 1 := ⟨n - 1, by omega⟩
    rw [fX6_isWord_l28]
    have eb : bv B M (s + i) = ι (B (s + i)) := by unfold bv; rw [if_neg (by omega)]
    rw [el, if_neg (by rw [ι_le (by omega) (by omega)]; omega), show 1 + 32 = 33 from rfl, h3, ι_add, c_byte hB (by omega), Option.bind_some, ff, el2, ι_n (by omega), if_neg (by simp (disch := omega) only [l_0, l_1, l_2, l_3, l_4, l_5, l_6, l_7, l_8, l_9, l_10, l_12, l_13, l_24, l_31, l_32, l_40, l_41, l_42, l_44, l_45, l_48, l_49, l_50, l_57, l_59, l_60, l_65, l_88, l_89, l_97, l_98, l_99, l_100, l_105, l_108, l_109, l_114, l_118, l_120, l_122, l_144, l_255, l_269, l_279, l_339, l_400, l_600, l_999, l_1000, l_2373, l_2712, ι_lt, ι_le, ι_eq, ι_add, ι_mul, ι_sub, ι_div, ι_n, ι_m1, m1_ι, m1_lt, m1_le, lt_m1, le_m1, m1_lt_m1, m1_le_m1, m1_add1, neg_ι1, ι_addm, ι_addn, Bool.false_eq_true, Nat.not_lt_zero, Nat.add_zero, Nat.zero_add, Nat.mul_zero, Nat.reduceMul, Nat.reduceAdd, Nat.reduceSub, Nat.reduceLT, Nat.reduceLeDiff, Nat.reduceEqDiff, Nat.reduceDiv, Nat.reduceBEq, Nat.reduceBNe, false_or, or_false, true_or, or_true, and_true, true_and, false_and, and_false, not_false_eq_true, not_true_eq_false, if_true, if_false, if_pos, if_neg, Option.bind_some, ite_false, ite_true, eq_self, reduceIte]; omega), eb, l_1, ι_add]
    by_cases e : ι (B (s + i)) = (bytL.getD w []).getD i 0
    · have hq : ¬ wq B w s i = true := by unfold wq; rw [decide_eq_true_eq]; exact fun z => z e
      rw [if_pos e, if_neg hq]
      exact ih n (i + 1) (by omega) (by omega)
    · have hq : wq B w s i = true := by unfold wq; rw [decide_eq_true_eq]; exact e
      rw [if_neg e, if_pos hq, if_neg (by simp)]; rfl
theorem c_isWord {B : Nat → Nat} {m s w : Nat} {σ : Mem} (hB : BC B m σ) (hT : CT B m σ s) (hw7 : wln w ≤ 7) : fX6_isWord 1 w σ = some (if isW B m w s then ι 1 else ι 0) := by
  obtain ⟨h1, h2, h3, h4, h5⟩ := hT
  have hm := hB.1
  have hkl := Kd_lt B m s
  obtain ⟨t1, t2, t3, t4⟩ := Tk_spec (B := B) h1
  have el : Int32.ofNat (bytL.getD w []).length = ι (wln w) := rfl
  unfold fX6_isWord
  rw [h2, h4, h3, ι_sub t1, el, l_1, ite_eq (by omega) (by omega), ite_eq (by omega) (by omega)]
  unfold isW
  by_cases c1 : Kd B m s = 1
  · rw [if_pos c1]
    by_cases c2 : Tk B m s - s = wln w
    · rw [if_pos c2]
      have g := c_l28 (w := w) hB h3 (by omega) (wln w) FU 0 (by omega) (by unfold FU; omega)
      by_cases c3 : ff (wq B w s) 0 (wln w) = none
      · rw [if_pos c3] at g
        rw [if_pos (show decide (Kd B m s = 1 ∧ Tk B m s = s + wln w ∧ ff (wq B w s) 0 (wln w) = none) = true by rw [decide_eq_true_eq]; exact ⟨c1, by omega, c3⟩)]; exact g
      · rw [if_neg c3] at g
        rw [if_neg (show ¬ decide (Kd B m s = 1 ∧ Tk B m s = s + wln w ∧ ff (wq B w s) 0 (wln w) = none) = true by rw [decide_eq_true_eq]; exact fun z => c3 z.2.2)]; exact g
    · rw [if_neg c2, if_neg (by rw [decide_eq_true_eq]; omega)]; rfl
  · rw [if_neg c1, if_neg (by rw [decide_eq_true_eq]; exact fun z => c1 z.1)]; rfl
