/-! PURE PART: tokens -/
def BC (B : Nat → Nat) (m : Nat) (σ : Mem) : Prop := m ≤ 600 ∧ σ 33 1 = ι m ∧ ∀ i, i < m → B i < 256 ∧ σ 34 i = ι (B i)
def BR (B : Nat → Nat) (m : Nat) (τ : Mem) : Prop := m ≤ 600 ∧ τ 0 12 = ι m ∧ ∀ i, i < m → B i < 256 ∧ τ 7 i = sx (B i)
theorem BC_c {B : Nat → Nat} {m : Nat} {σ ρ : Mem} (h : BC B m σ) (h1 : ρ 33 = σ 33) (h2 : ρ 34 = σ 34) : BC B m ρ := by
  unfold BC at *; rw [h1, h2]; exact h
theorem BR_c {B : Nat → Nat} {m : Nat} {σ ρ : Mem} (h : BR B m σ) (h1 : ρ 0 12 = σ 0 12) (h2 : ρ 7 = σ 7) : BR B m ρ := by
  unfold BR at *; rw [h1, h2]; exact h
def Kd (B : Nat → Nat) (m i : Nat) : Nat := if m ≤ i then 0 else if 97 ≤ B i ∧ B i ≤ 122 then 1 else if 48 ≤ B i ∧ B i ≤ 57 then 2 else 3
def Skp (B : Nat → Nat) (m e : Nat) : Nat := (ff (fun i => decide (B i ≠ 32)) e (m - e)).getD m
def Tk (B : Nat → Nat) (m s : Nat) : Nat := if Kd B m s = 3 then s + 1 else (ff (fun i => decide (Kd B m i ≠ Kd B m s)) s (m - s)).getD m
theorem Kd_lt (B : Nat → Nat) (m i : Nat) : Kd B m i < 4 := by unfold Kd; repeat' split
                                                               all_goals omega
theorem Kd_0 {B : Nat → Nat} {m i : Nat} : Kd B m i = 0 ↔ m ≤ i := by
  unfold Kd; constructor
  · intro h
    by_cases c : m ≤ i
    · exact c
    · rw [if_neg c] at h; revert h; repeat' split
      all_goals omega
  · intro h; rw [if_pos h]
theorem Kd_1 {B : Nat → Nat} {m i : Nat} : Kd B m i = 1 ↔ i < m ∧ 97 ≤ B i ∧ B i ≤ 122 := by
  unfold Kd; repeat' split
  all_goals omega
theorem Kd_2 {B : Nat → Nat} {m i : Nat} : Kd B m i = 2 ↔ i < m ∧ 48 ≤ B i ∧ B i ≤ 57 := by
  unfold Kd; repeat' split
  all_goals omega
theorem Skp_spec {B : Nat → Nat} {m e : Nat} (he : e ≤ m) : e ≤ Skp B m e ∧ Skp B m e ≤ m ∧ (∀ i, e ≤ i → i < Skp B m e → B i = 32) ∧ (Skp B m e < m → B (Skp B m e) ≠ 32) := by
  unfold Skp
  cases h : ff (fun i => decide (B i ≠ 32)) e (m - e) with
  | none =>
    have g := ff_none _ _ h
    show e ≤ m ∧ m ≤ m ∧ (∀ i, e ≤ i → i < m → B i = 32) ∧ (m < m → B m ≠ 32)
    refine ⟨he, Nat.le_refl _, fun i h1 h2 => ?_, fun z => absurd z (Nat.lt_irrefl _)⟩
    have := g i h1 (by omega)
    simpa using this
  | some x =>
    have g := ff_some _ _ h
    show e ≤ x ∧ x ≤ m ∧ (∀ i, e ≤ i → i < x → B i = 32) ∧ (x < m → B x ≠ 32)
    refine ⟨g.1, by have := g.2.1; omega, fun i h1 h2 => ?_, fun _ => ?_⟩
    · have := g.2.2.2 i h1 h2; simpa using this
    · have := g.2.2.1; simpa using this
theorem Skp_is {B : Nat → Nat} {m e s : Nat} (he : e ≤ s) (hs : s ≤ m) (h1 : ∀ i, e ≤ i → i < s → B i = 32) (h2 : s < m → B s ≠ 32) : Skp B m e = s := by
  obtain ⟨g1, g2, g3, g4⟩ := Skp_spec (B := B) (show e ≤ m by omega)
  rcases Nat.lt_trichotomy (Skp B m e) s with z | z | z
  · exact absurd (h1 _ g1 z) (g4 (by omega))
  · exact z
  · exact absurd (g3 s he z) (h2 (by omega))
theorem Skp_mid {B : Nat → Nat} {m e x : Nat} (he : e ≤ x) (hx : x ≤ Skp B m e) (hm : e ≤ m) : Skp B m x = Skp B m e := by
  obtain ⟨g1, g2, g3, g4⟩ := Skp_spec (B := B) hm
  exact Skp_is hx g2 (fun i h1 h2 => g3 i (by omega) h2) g4
theorem Skp_idem {B : Nat → Nat} {m e : Nat} (hm : e ≤ m) : Skp B m (Skp B m e) = Skp B m e := Skp_mid (Skp_spec hm).1 (Nat.le_refl _) hm
theorem Tk_spec {B : Nat → Nat} {m s : Nat} (hs : s ≤ m) : s ≤ Tk B m s ∧ Tk B m s ≤ m ∧ (Kd B m s ≠ 3 → (∀ i, s ≤ i → i < Tk B m s → Kd B m i = Kd B m s) ∧ (Kd B m (Tk B m s) ≠ Kd B m s ∨ Tk B m s = m)) ∧ (Kd B m s ≠ 0 → s < Tk B m s) := by
  unfold Tk
  by_cases h3 : Kd B m s = 3
  · rw [if_pos h3]
    have : ¬ m ≤ s := fun z => by have := (Kd_0 (B := B)).mpr z; omega
    exact ⟨by omega, by omega, fun z => absurd h3 z, fun _ => by omega⟩
  · rw [if_neg h3]
    cases h : ff (fun i => decide (Kd B m i ≠ Kd B m s)) s (m - s) with
    | none =>
      have g := ff_none _ _ h
      show s ≤ m ∧ m ≤ m ∧ (Kd B m s ≠ 3 → (∀ i, s ≤ i → i < m → Kd B m i = Kd B m s) ∧ (Kd B m m ≠ Kd B m s ∨ m = m)) ∧ (Kd B m s ≠ 0 → s < m)
      refine ⟨hs, Nat.le_refl _, fun _ => ⟨fun i h1 h2 => ?_, Or.inr rfl⟩, fun z => ?_⟩
      · have := g i h1 (by omega)
        simpa using this
      · have : ¬ m ≤ s := fun y => z (Kd_0.mpr y)
        omega
    | some x =>
      have g := ff_some _ _ h
      show s ≤ x ∧ x ≤ m ∧ (Kd B m s ≠ 3 → (∀ i, s ≤ i → i < x → Kd B m i = Kd B m s) ∧ (Kd B m x ≠ Kd B m s ∨ x = m)) ∧ (Kd B m s ≠ 0 → s < x)
      have gx : Kd B m x ≠ Kd B m s := by have := g.2.2.1; simpa using this
      refine ⟨g.1, by have := g.2.1; omega, fun _ => ⟨fun i h1 h2 => ?_, Or.inl gx⟩, fun z => ?_⟩
      · have := g.2.2.2 i h1 h2; simpa using this
      · rcases Nat.lt_or_ge s x with y | y
        · exact y
        · have e : x = s := by have := g.1; omega
          rw [e] at gx; exact absurd rfl gx
def nm (B : Nat → Nat) : Nat → Nat → Nat → Nat
  | _, 0, a => a
  | x, d + 1, a => nm B (x + 1) d (10 * a + B x - 48)
theorem nm_lt {B : Nat → Nat} : ∀ d x a, (∀ i, x ≤ i → i < x + d → 48 ≤ B i ∧ B i ≤ 57) → nm B x d a < (a + 1) * 10 ^ d
  | 0, x, a, h => by rw [nm]; omega
  | d + 1, x, a, h => by
    rw [nm]
    have g := nm_lt d (x + 1) (10 * a + B x - 48) (fun i h1 h2 => h i (by omega) (by omega))
    have hx := h x (by omega) (by omega)
    refine Nat.lt_of_lt_of_le g ?_
    rw [Nat.pow_succ, Nat.mul_comm (10 ^ d) 10, ← Nat.mul_assoc]
    exact Nat.mul_le_mul_right _ (by omega)
def nv (B : Nat → Nat) (m s : Nat) : Option Nat := if Kd B m s = 2 ∧ Tk B m s - s ≤ 4 then some (nm B s (Tk B m s - s) 0) else none
theorem nv_lt {B : Nat → Nat} {m s v : Nat} (hs : s ≤ m) (h : nv B m s = some v) : v < 10000 := by
  unfold nv at h
  by_cases c : Kd B m s = 2 ∧ Tk B m s - s ≤ 4
  · rw [if_pos c] at h
    cases h
    obtain ⟨t1, t2, t3, t4⟩ := Tk_spec (B := B) hs
    have g := nm_lt (B := B) (Tk B m s - s) s 0 (fun i h1 h2 => by
      have := (t3 (by omega)).1 i h1 (by omega)
      rw [c.1] at this
      exact (Kd_2.mp this).2)
    have p : 10 ^ (Tk B m s - s) ≤ 10 ^ 4 := Nat.pow_le_pow_right (by omega) c.2
    have e : (10 : Nat) ^ 4 = 10000 := rfl
    rw [Nat.zero_add, Nat.one_mul] at g
    omega
  · rw [if_neg c] at h; cases h
def CT (B : Nat → Nat) (m : Nat) (σ : Mem) (s : Nat) : Prop := s ≤ m ∧ σ 1 2 = ι (Kd B m s) ∧ σ 1 3 = ι s ∧ σ 1 4 = ι (Tk B m s) ∧ σ 1 5 = oi (nv B m s)
theorem CT_c {B : Nat → Nat} {m s : Nat} {σ ρ : Mem} (h : CT B m σ s) (e : ρ 1 = σ 1) : CT B m ρ s := by
  unfold CT at *; rw [e]; exact h
def bv (B : Nat → Nat) (m i : Nat) : Int32 := if m ≤ i then μ else ι (B i)
theorem c_byte {B : Nat → Nat} {m i : Nat} {σ : Mem} (h : BC B m σ) (hi : i < 2147483648) : fX8_byteAt 33 (ι i) σ = some (bv B m i) := by
  unfold bv
  by_cases c : m ≤ i
  · rw [if_pos c, c_byteAt_no h.1 h.2.1 c hi]
  · rw [if_neg c, c_byteAt ln34 (by omega) h.1 h.2.1 (by omega), (h.2.2 i (by omega)).2]
theorem c_kind {B : Nat → Nat} {m i : Nat} {σ ρ : Mem} (h : BC B m σ) : fX6_kindOf (bv B m i) ρ = some (ι (Kd B m i)) := by
  unfold fX6_kindOf bv Kd
  by_cases c : m ≤ i
  · rw [if_pos c, if_pos c, if_pos (by rfl)]; rfl
  · rw [if_neg c, if_neg c]
    have := (h.2.2 i (by omega)).1
    simp (disch := omega) only [l_0, l_1, l_2, l_3, l_4, l_5, l_6, l_7, l_8, l_9, l_10, l_12, l_13, l_24, l_31, l_32, l_40, l_41, l_42, l_44, l_45, l_48, l_49, l_50, l_57, l_59, l_60, l_65, l_88, l_89, l_97, l_98, l_99, l_100, l_105, l_108, l_109, l_114, l_118, l_120, l_122, l_144, l_255, l_269, l_279, l_339, l_400, l_600, l_999, l_1000, l_2373, l_2712, ι_lt, ι_le, ι_eq, ι_add, ι_mul, ι_sub, ι_div, ι_n, ι_m1, m1_ι, m1_lt, m1_le, lt_m1, le_m1, m1_lt_m1, m1_le_m1, m1_add1, neg_ι1, ι_addm, ι_addn, Bool.false_eq_true, Nat.not_lt_zero, Nat.add_zero, Nat.zero_add, Nat.mul_zero, Nat.reduceMul, Nat.reduceAdd, Nat.reduceSub, Nat.reduceLT, Nat.reduceLeDiff, Nat.reduceEqDiff, Nat.reduceDiv, Nat.reduceBEq, Nat.reduceBNe, false_or, or_false, true_or, or_true, and_true, true_and, false_and, and_false, not_false_eq_true, not_true_eq_false, if_true, if_false, if_pos, if_neg, Option.bind_some, ite_false, ite_true, eq_self, reduceIte]
    repeat' split
    all_goals first | rfl | omega
theorem c_l8 {B : Nat → Nat} {m t : Nat} (ht : t ≤ m) (h2 : t < m → B t ≠ 32) : ∀ d n x (σ : Mem), x + d = t → d < n → (∀ i, x ≤ i → i < t → B i = 32) → BC B m σ → σ 1 3 = ι x → ∃ ρ, fX6_nextToken_l8 1 n σ = some ρ ∧ ρ 1 3 = ι t ∧ ∀ k j, ¬ (k = 1 ∧ j = 3) → ρ k j = σ k j := by
  intro d
  induction d with
  | zero =>
    intro n x σ hx hn hsp hB h3
    obtain ⟨n, rfl⟩ : ∃ k, n = k + 1 := ⟨n - 1, by omega⟩
    have hm := hB.1
    have e : x = t := by omega
    subst e
    refine ⟨σ, ?_, h3, fun _ _ _ => rfl⟩
    rw [fX6_nextToken_l8]
    unfold fX8_size
    rw [show 1 + 32 = 33 from rfl, Option.bind_some, hB.2.1, h3, c_byte hB (by omega), Option.bind_some]
    by_cases c : m ≤ x
    · rw [if_pos (by rw [ι_le (by omega) (by omega)]; exact c)]
    · have hb := hB.2.2 x (by omega)
      rw [if_neg (by rw [ι_le (by omega) (by omega)]; exact c), if_neg]
      unfold bv
      rw [if_neg c, l_32, ι_eq (by omega) (by omega)]
      exact h2 (by omega)
  | succ d ih =>
    intro n x σ hx hn hsp hB h3
    obtain ⟨n, rfl⟩ : ∃ k, n = k + 1 := ⟨n - 1, by omega⟩
    have hm := hB.1
    obtain ⟨ρ, a1, a2, a3⟩ := ih n (x + 1) (up σ 1 3 (ι (x + 1))) (by omega) (by omega) (fun i g1 g2 => hsp i (by omega) g2) (BC_c hB (up_k _ _ _ _ _ (by omega)) (up_k _ _ _ _ _ (by omega))) (up_e _ _ _ _)
    refine ⟨ρ, ?_, a2, fun k j hk => by rw [a3 k j hk, up_g, if_neg hk]⟩
    rw [fX6_nextToken_l8]
    unfold fX8_size
    rw [show 1 + 32 = 33 from rfl, Option.bind_some, hB.2.1, h3, c_byte hB (by omega), Option.bind_some, if_neg (by rw [ι_le (by omega) (by omega)]; omega), if_pos (by unfold bv; rw [if_neg (by omega), hsp x (by omega) (by omega)]; rfl), l_1, ι_add]
    exact a1
theorem c_l95 {B : Nat → Nat} {m t kd : Nat} (ht : t ≤ m) (hk : kd ≠ 3) (hk4 : kd < 4) (h2 : Kd B m t ≠ kd ∨ t = m) : ∀ d n x (σ : Mem), x + d = t → d < n → (∀ i, x ≤ i → i < t → Kd B m i = kd) → BC B m σ → σ 1 4 = ι x → σ 1 2 = ι kd → ∃ ρ, fX6_nextToken_l95 1 n σ = some ρ ∧ ρ 1 4 = ι t ∧ ∀ k j, ¬ (k = 1 ∧ j = 4) → ρ k j = σ k j := by
  have hk3 : ¬ ι kd = (3 : Int32) := by rw [l_3, ι_eq (by omega) (by omega)]; exact hk
  intro d
  induction d with
  | zero =>
    intro n x σ hx hn hsp hB h4 hkd
    obtain ⟨n, rfl⟩ : ∃ k, n = k + 1 := ⟨n - 1, by omega⟩
    have hm := hB.1
    have e : x = t := by omega
    subst e
    refine ⟨σ, ?_, h4, fun _ _ _ => rfl⟩
    rw [fX6_nextToken_l95]
    unfold fX8_size
    rw [show 1 + 32 = 33 from rfl, Option.bind_some, hB.2.1, h4, hkd, c_byte hB (by omega), Option.bind_some, c_kind hB, Option.bind_some, if_neg hk3]
    by_cases c : m ≤ x
    · rw [if_pos (by rw [ι_le (by omega) (by omega)]; exact c)]
    · have hl := Kd_lt B m x
      rw [if_neg (by rw [ι_le (by omega) (by omega)]; exact c), if_neg]
      rw [ι_eq (by omega) (by omega)]
      omega
  | succ d ih =>
    intro n x σ hx hn hsp hB h4 hkd
    obtain ⟨n, rfl⟩ : ∃ k, n = k + 1 := ⟨n - 1, by omega⟩
    have hm := hB.1
    obtain ⟨ρ, a1, a2, a3⟩ := ih n (x + 1) (up σ 1 4 (ι (x + 1))) (by omega) (by omega) (fun i g1 g2 => hsp i (by omega) g2) (BC_c hB (up_k _ _ _ _ _ (by omega)) (up_k _ _ _ _ _ (by omega))) (up_e _ _ _ _) (by rw [up_j _ _ _ _ _ (by omega)]; exact hkd)
    refine ⟨ρ, ?_, a2, fun k j hk => by rw [a3 k j hk, up_g, if_neg hk]⟩
    rw [fX6_nextToken_l95]
    unfold fX8_size
    rw [show 1 + 32 = 33 from rfl, Option.bind_some, hB.2.1, h4, hkd, c_byte hB (by omega), Option.bind_some, c_kind hB, Option.bind_some, if_neg hk3, if_neg (by rw [ι_le (by omega) (by omega)]; omega), if_pos (by rw [hsp x (by omega) (by omega)]), l_1, ι_add]
    exact a1
theorem c_l22 {B : Nat → Nat} {m t : Nat} {σ : Mem} (ht : t ≤ m) (hB : BC B m σ) (h4 : σ 1 4 = ι t) : ∀ d n x a, x + d = t → d < n → (∀ i, x ≤ i → i < t → 48 ≤ B i) → fX6_numberRead_l22 1 n (ι a) (ι x) σ = some (ι (nm B x d a), ι t) := by
  have hm := hB.1
  intro m
  induction m with
  | zero =>
    intro n x a h hn hd
    obtain ⟨n, rfl⟩ : ∃ k, n = k + 1 := ⟨n - 1, by omega⟩
    rw [fX6_numberRead_l22]
    rw [h4, if_pos (by rw [ι_le (by omega) (by omega)]; omega), nm]
    have e : x = t := by omega
    rw [e]
  | succ m ih =>
    intro n x a h hn hd
    obtain ⟨n, rfl⟩ : ∃ k, n = k + 1 := ⟨n - 1, by omega⟩
    rw [fX6_numberRead_l22]
    have hx := hd x (by omega) (by omega)
    rw [h4, if_neg (by rw [ι_le (by omega) (by omega)]; omega), show 1 + 32 = 33 from rfl, c_byte hB (by omega), Option.bind_some]
    unfold bv
    rw [if_neg (by omega), l_10, l_48, l_1, ι_mul, ι_add, ι_sub (by omega), ι_add, nm]
    exact ih n (x + 1) _ (by omega) (by omega) (fun i g1 g2 => hd i (by omega) g2)
theorem c_num {B : Nat → Nat} {m s : Nat} {σ : Mem} (hs : s ≤ m) (hB : BC B m σ) (hk : Kd B m s = 2) (h3 : σ 1 3 = ι s) (h4 : σ 1 4 = ι (Tk B m s)) : fX6_numberRead 1 σ = some (oi (nv B m s)) := by
  obtain ⟨t1, t2, t3, t4⟩ := Tk_spec (B := B) hs
  have hm := hB.1
  unfold fX6_numberRead nv
  rw [h3, h4, ι_sub t1, l_4, ite_le (by omega) (by omega)]
  by_cases c : Tk B m s - s ≤ 4
  · rw [if_pos c, if_pos ⟨hk, c⟩, l_0, c_l22 t2 hB h4 (Tk B m s - s) FU s 0 (by omega) (by unfold FU; omega) (fun i g1 g2 => by
      have := (t3 (by omega)).1 i g1 g2
      rw [hk] at this
      exact (Kd_2.mp this).2.1), Option.bind_some]
    rfl
  · rw [if_neg c, if_neg (fun z => c z.2)]; rfl
theorem c_next {B : Nat → Nat} {m e : Nat} {σ : Mem} (hB : BC B m σ) (he : σ 1 4 = ι e) (hem : e ≤ m) : ∃ ρ, fX6_nextToken 1 σ = some ρ ∧ CT B m ρ (Skp B m e) ∧ ∀ j, j ≠ 1 → ρ j = σ j := by
  obtain ⟨s1, s2, s3, s4⟩ := Skp_spec (B := B) hem
  have hm := hB.1
  obtain ⟨ρ1, a1, a2, a3⟩ := c_l8 s2 s4 (Skp B m e - e) FU e (up σ 1 3 (ι e)) (by omega) (by unfold FU; omega) s3 (BC_c hB (up_k _ _ _ _ _ (by omega)) (up_k _ _ _ _ _ (by omega))) (up_e _ _ _ _)
  generalize Skp B m e = s at *
  obtain ⟨t1, t2, t3, t4⟩ := Tk_spec (B := B) s2
  have f1 : ∀ j, j ≠ 1 → ρ1 j = σ j := fun j hj => funext fun i => by rw [a3 j i (by omega), up_k _ _ _ _ _ hj]
  have hB1 : BC B m ρ1 := BC_c hB (f1 33 (by omega)) (f1 34 (by omega))
  have hkl := Kd_lt B m s
  unfold fX6_nextToken fX6_nextToken_j51
  rw [he, a1, Option.bind_some, show 1 + 32 = 33 from rfl, a2, c_byte hB1 (by omega), Option.bind_some, c_kind hB1, Option.bind_some]
  have e13 : up ρ1 1 2 (ι (Kd B m s)) 1 3 = ι s := by rw [up_j _ _ _ _ _ (by omega)]; exact a2
  rw [e13]
  have e12 : up (up ρ1 1 2 (ι (Kd B m s))) 1 4 (ι s) 1 2 = ι (Kd B m s) := by rw [up_j _ _ _ _ _ (by omega), up_e]
  have e14 : up (up ρ1 1 2 (ι (Kd B m s))) 1 4 (ι s) 1 4 = ι s := up_e _ _ _ _
  have e15 : up (up ρ1 1 2 (ι (Kd B m s))) 1 4 (ι s) 1 3 = ι s := by rw [up_j _ _ _ _ _ (by omega)]; exact e13
  have f2 : ∀ j, j ≠ 1 → up (up ρ1 1 2 (ι (Kd B m s))) 1 4 (ι s) j = σ j := fun j hj => by rw [up_k _ _ _ _ _ hj, up_k _ _ _ _ _ hj]; exact f1 j hj
  rw [e12, e14]
  generalize up (up ρ1 1 2 (ι (Kd B m s))) 1 4 (ι s) = ρ2 at *
  by_cases h3 : Kd B m s = 3
  · rw [if_pos (by rw [h3]; rfl), l_1, ι_add]
    have b2 : up ρ2 1 4 (ι (s + 1)) 1 2 = ι (Kd B m s) := by rw [up_j _ _ _ _ _ (by omega)]; exact e12
    have b3 : up ρ2 1 4 (ι (s + 1)) 1 3 = ι s := by rw [up_j _ _ _ _ _ (by omega)]; exact e15
    have b4 : up ρ2 1 4 (ι (s + 1)) 1 4 = ι (s + 1) := up_e _ _ _ _
    have f3 : ∀ j, j ≠ 1 → up ρ2 1 4 (ι (s + 1)) j = σ j := fun j hj => by rw [up_k _ _ _ _ _ hj]; exact f2 j hj
    generalize up ρ2 1 4 (ι (s + 1)) = ρ3 at *
    have c : fX6_nextToken_l95 1 FU ρ3 = some ρ3 := by
      rw [show FU = 4095 + 1 from rfl, fX6_nextToken_l95]
      unfold fX8_size
      rw [Option.bind_some, b2, if_pos (show ι (Kd B m s) = (3 : Int32) by rw [h3]; rfl)]
      split <;> rfl
    rw [c, Option.bind_some, b2, if_neg (by rw [h3]; decide)]
    refine ⟨_, rfl, ⟨s2, ?_, ?_, ?_, ?_⟩, fun j hj => by rw [up_k _ _ _ _ _ hj]; exact f3 j hj⟩
    · rw [up_j _ _ _ _ _ (by omega)]; exact b2
    · rw [up_j _ _ _ _ _ (by omega)]; exact b3
    · rw [up_j _ _ _ _ _ (by omega), b4]; unfold Tk; rw [if_pos h3]
    · rw [up_e]; unfold nv; rw [if_neg (fun z => by omega)]; rfl
  · rw [if_neg (by rw [l_3, ι_eq (by omega) (by omega)]; exact h3)]
    obtain ⟨g1, g2⟩ := t3 h3
    obtain ⟨ρ3, c1, c2, c3⟩ := c_l95 t2 h3 hkl g2 (Tk B m s - s) FU s ρ2 (by omega) (by unfold FU; omega) g1 (BC_c hB (f2 33 (by omega)) (f2 34 (by omega))) e14 e12
    have f3 : ∀ j, j ≠ 1 → ρ3 j = σ j := fun j hj => funext fun i => by rw [c3 j i (by omega), f2 j hj]
    have d2 : ρ3 1 2 = ι (Kd B m s) := (c3 1 2 (by omega)).trans e12
    have d3 : ρ3 1 3 = ι s := (c3 1 3 (by omega)).trans e15
    rw [c1, Option.bind_some, d2]
    by_cases h2 : Kd B m s = 2
    · rw [if_pos (by rw [h2]; rfl), c_num s2 (BC_c hB (f3 33 (by omega)) (f3 34 (by omega))) h2 d3 c2, Option.bind_some]
      refine ⟨_, rfl, ⟨s2, ?_, ?_, ?_, up_e _ _ _ _⟩, fun j hj => by rw [up_k _ _ _ _ _ hj]; exact f3 j hj⟩
      · rw [up_j _ _ _ _ _ (by omega)]; exact d2
      · rw [up_j _ _ _ _ _ (by omega)]; exact d3
      · rw [up_j _ _ _ _ _ (by omega)]; exact c2
    · rw [if_neg (by rw [l_2, ι_eq (by omega) (by omega)]; exact h2)]
      refine ⟨_, rfl, ⟨s2, ?_, ?_, ?_, ?_⟩, fun j hj => by rw [up_k _ _ _ _ _ hj]; exact f3 j hj⟩
      · rw [up_j _ _ _ _ _ (by omega)]; exact d2
      · rw [up_j _ _ _ _ _ (by omega)]; exact d3
      · rw [up_j _ _ _ _ _ (by omega)]; exact c2
      · rw [up_e]; unfold nv; rw [if_neg (fun z => h2 z.1)]; rfl
theorem c_nextT {B : Nat → Nat} {m s : Nat} {σ : Mem} (hB : BC B m σ) (hT : CT B m σ s) : ∃ ρ, fX6_nextToken 1 σ = some ρ ∧ CT B m ρ (Skp B m (Tk B m s)) ∧ BC B m ρ ∧ ∀ j, j ≠ 1 → ρ j = σ j := by
  obtain ⟨ρ, a1, a2, a3⟩ := c_next hB hT.2.2.2.1 (Tk_spec hT.1).2.1
  exact ⟨ρ, a1, a2, BC_c hB (a3 33 (by omega)) (a3 34 (by omega)), a3⟩
def wln (w : Nat) : Nat := (bytL.getD w []).length
def wq (B : Nat → Nat) (w s i : Nat) : Bool := decide (ι (B (s + i)) ≠ (bytL.getD w []).getD i 0)
def isW (B : Nat → Nat) (m w s : Nat) : Bool := decide (Kd B m s = 1 ∧ Tk B m s = s + wln w ∧ ff (wq B w s) 0 (wln w) = none)
theorem c_l28 {B : Nat → Nat} {M s w : Nat} {σ : Mem} (hB : BC B M σ) (h3 : σ 1 3 = ι s) (hw : s + wln w ≤ M) : ∀ d n i, i + d = wln w → d < n → (fX6_isWord_l28 1 w n (ι i) σ).bind (fun q28 => match q28 with | .inl r => some r | .inr q28 => some (1 : Int32)) = some (if ff (wq B w s) i d = none then ι 1 else ι 0) := by
  have hm := hB.1
  have el : Int32.ofNat (bytL.getD w []).length = ι (wln w) := rfl
  have el2 : (bytL.getD w []).length = wln w := rfl
  intro m
  induction m with
  | zero =>
    intro n i h hn
    obtain ⟨n, rfl⟩ : ∃ k, n = k + 1 := ⟨n - 1, by omega⟩
    rw [fX6_isWord_l28]
    rw [el, if_pos (by rw [ι_le (by omega) (by omega)]; omega), ff, if_pos rfl]; rfl
  | succ m ih =>
    intro n i h hn
    obtain ⟨n, rfl⟩ : ∃ k, n = k + 1 := ⟨n - 1, by omega⟩
    rw [fX6_isWord_l28]
    have eb : bv B M (s + i) = ι (B (s + i)) := by unfold bv; rw [if_neg (by omega)]
    rw [el, if_neg (by rw [ι_le (by omega) (by omega)]; omega), show 1 + 32 = 33 from rfl, h3, ι_add, c_byte hB (by omega), Option.bind_some, ff, el2, ι_n (by omega), if_neg (by simp (disch := omega) only [l_0, l_1, l_2, l_3, l_4, l_5, l_6, l_7, l_8, l_9, l_10, l_12, l_13, l_24, l_31, l_32, l_40, l_41, l_42, l_44, l_45, l_48, l_49, l_50, l_57, l_59, l_60, l_65, l_88, l_89, l_97, l_98, l_99, l_100, l_105, l_108, l_109, l_114, l_118, l_120, l_122, l_144, l_255, l_269, l_279, l_339, l_400, l_600, l_999, l_1000, l_2373, l_2712, ι_lt, ι_le, ι_eq, ι_add, ι_mul, ι_sub, ι_div, ι_n, ι_m1, m1_ι, m1_lt, m1_le, lt_m1, le_m1, m1_lt_m1, m1_le_m1, m1_add1, neg_ι1, ι_addm, ι_addn, Bool.false_eq_true, Nat.not_lt_zero, Nat.add_zero, Nat.zero_add, Nat.mul_zero, Nat.reduceMul, Nat.reduceAdd, Nat.reduceSub, Nat.reduceLT, Nat.reduceLeDiff, Nat.reduceEqDiff, Nat.reduceDiv, Nat.reduceBEq, Nat.reduceBNe, false_or, or_false, true_or, or_true, and_true, true_and, false_and, and_false, not_false_eq_true, not_true_eq_false, if_true, if_false, if_pos, if_neg, Option.bind_some, ite_false, ite_true, eq_self, reduceIte]; omega), eb, l_1, ι_add]
    by_cases e : ι (B (s + i)) = (bytL.getD w []).getD i 0
    · have hq : ¬ wq B w s i = true := by unfold wq; rw [decide_eq_true_eq]; exact fun z => z e
      rw [if_pos e, if_neg hq]
      exact ih n (i + 1) (by omega) (by omega)
    · have hq : wq B w s i = true := by unfold wq; rw [decide_eq_true_eq]; exact e
      rw [if_neg e, if_pos hq, if_neg (by simp)]; rfl
theorem c_isWord {B : Nat → Nat} {m s w : Nat} {σ : Mem} (hB : BC B m σ) (hT : CT B m σ s) (hw7 : wln w ≤ 7) : fX6_isWord 1 w σ = some (if isW B m w s then ι 1 else ι 0) := by
  obtain ⟨h1, h2, h3, h4, h5⟩ := hT
  have hm := hB.1
  have hkl := Kd_lt B m s
  obtain ⟨t1, t2, t3, t4⟩ := Tk_spec (B := B) h1
  have el : Int32.ofNat (bytL.getD w []).length = ι (wln w) := rfl
  unfold fX6_isWord
  rw [h2, h4, h3, ι_sub t1, el, l_1, ite_eq (by omega) (by omega), ite_eq (by omega) (by omega)]
  unfold isW
  by_cases c1 : Kd B m s = 1
  · rw [if_pos c1]
    by_cases c2 : Tk B m s - s = wln w
    · rw [if_pos c2]
      have g := c_l28 (w := w) hB h3 (by omega) (wln w) FU 0 (by omega) (by unfold FU; omega)
      by_cases c3 : ff (wq B w s) 0 (wln w) = none
      · rw [if_pos c3] at g
        rw [if_pos (show decide (Kd B m s = 1 ∧ Tk B m s = s + wln w ∧ ff (wq B w s) 0 (wln w) = none) = true by rw [decide_eq_true_eq]; exact ⟨c1, by omega, c3⟩)]; exact g
      · rw [if_neg c3] at g
        rw [if_neg (show ¬ decide (Kd B m s = 1 ∧ Tk B m s = s + wln w ∧ ff (wq B w s) 0 (wln w) = none) = true by rw [decide_eq_true_eq]; exact fun z => c3 z.2.2)]; exact g
    · rw [if_neg c2, if_neg (by rw [decide_eq_true_eq]; omega)]; rfl
  · rw [if_neg c1, if_neg (by rw [decide_eq_true_eq]; exact fun z => c1 z.1)]; rfl

/-! PURE PART: the reference's tokens -/
def frL (τ υ : Mem) : Prop := ∀ k j, ¬ (k = 0 ∧ (j = 13 ∨ j = 14)) → υ k j = τ k j
def frM (τ υ : Mem) : Prop := ∀ k j, ¬ (k = 0 ∧ (j = 13 ∨ j = 14 ∨ j = 15)) → υ k j = τ k j
theorem frL_M {τ υ : Mem} (h : frL τ υ) : frM τ υ := fun k j hk => h k j (by omega)
theorem frM_trans {τ υ ω : Mem} (h1 : frM τ υ) (h2 : frM υ ω) : frM τ ω := fun k j hk => (h2 k j hk).trans (h1 k j hk)
theorem frM_BR {B : Nat → Nat} {m : Nat} {τ υ : Mem} (h : frM τ υ) (hB : BR B m τ) : BR B m υ := BR_c hB (h 0 12 (by omega)) (funext fun j => h 7 j (by omega))
theorem sx_and : ∀ b, b < 256 → (ι b).toInt8.toInt32 &&& (255 : Int32) = ι b := by decide +kernel
theorem r_here {B : Nat → Nat} {m p : Nat} {τ : Mem} (h : BR B m τ) (hp : p ≤ m) (h13 : τ 0 13 = ι p) : fX12_here τ = some (bv B m p) := by
  have hm := h.1
  unfold fX12_here bv
  rw [h.2.1, h13, ite_le (by omega) (by omega)]
  by_cases c : m ≤ p
  · rw [if_pos c, if_pos c]; rfl
  · rw [if_neg c, if_neg c]
    have hb := h.2.2 p (by omega)
    rw [if_neg (by simp (disch := omega) only [l_0, l_1, l_2, l_3, l_4, l_5, l_6, l_7, l_8, l_9, l_10, l_12, l_13, l_24, l_31, l_32, l_40, l_41, l_42, l_44, l_45, l_48, l_49, l_50, l_57, l_59, l_60, l_65, l_88, l_89, l_97, l_98, l_99, l_100, l_105, l_108, l_109, l_114, l_118, l_120, l_122, l_144, l_255, l_269, l_279, l_339, l_400, l_600, l_999, l_1000, l_2373, l_2712, ι_lt, ι_le, ι_eq, ι_add, ι_mul, ι_sub, ι_div, ι_n, ι_m1, m1_ι, m1_lt, m1_le, lt_m1, le_m1, m1_lt_m1, m1_le_m1, m1_add1, neg_ι1, ι_addm, ι_addn, Bool.false_eq_true, Nat.not_lt_zero, Nat.add_zero, Nat.zero_add, Nat.mul_zero, Nat.reduceMul, Nat.reduceAdd, Nat.reduceSub, Nat.reduceLT, Nat.reduceLeDiff, Nat.reduceEqDiff, Nat.reduceDiv, Nat.reduceBEq, Nat.reduceBNe, false_or, or_false, true_or, or_true, and_true, true_and, false_and, and_false, not_false_eq_true, not_true_eq_false, if_true, if_false, if_pos, if_neg, Option.bind_some, ite_false, ite_true, eq_self, reduceIte, lm_0, lm_1, lm_2, lm_3, lm_4, lm_5, lm_6, lm_7, lm_8, lm_9, lm_10, lm_11, lm_12, lm_13, lm_14, lm_15, lm_16, lm_17]; omega), ι_n (by omega), hb.2]
    unfold sx
    rw [sx_and _ hb.1]
theorem r_l0 {B : Nat → Nat} {m t : Nat} (ht : t ≤ m) (h2 : t < m → B t ≠ 32) : ∀ d n x (τ : Mem), x + d = t → d < n → (∀ i, x ≤ i → i < t → B i = 32) → BR B m τ → τ 0 13 = ι x → ∃ υ, fX12_look_l0 n τ = some υ ∧ υ 0 13 = ι t ∧ ∀ k j, ¬ (k = 0 ∧ j = 13) → υ k j = τ k j := by
  intro d
  induction d with
  | zero =>
    intro n x τ hx hn hsp hB h13
    obtain ⟨n, rfl⟩ : ∃ k, n = k + 1 := ⟨n - 1, by omega⟩
    have e : x = t := by omega
    subst e
    refine ⟨τ, ?_, h13, fun _ _ _ => rfl⟩
    rw [fX12_look_l0, r_here hB ht h13, Option.bind_some, if_neg]
    unfold bv
    by_cases c : m ≤ x
    · rw [if_pos c]; decide
    · have hb := hB.2.2 x (by omega)
      rw [if_neg c, l_32, ι_eq (by omega) (by omega)]
      exact h2 (by omega)
  | succ d ih =>
    intro n x τ hx hn hsp hB h13
    obtain ⟨n, rfl⟩ : ∃ k, n = k + 1 := ⟨n - 1, by omega⟩
    obtain ⟨υ, a1, a2, a3⟩ := ih n (x + 1) (up τ 0 13 (ι (x + 1))) (by omega) (by omega) (fun i g1 g2 => hsp i (by omega) g2) (BR_c hB (up_j _ _ _ _ _ (by omega)) (up_k _ _ _ _ _ (by omega))) (up_e _ _ _ _)
    refine ⟨υ, ?_, a2, fun k j hk => by rw [a3 k j hk, up_g, if_neg hk]⟩
    rw [fX12_look_l0, r_here hB (by omega) h13, Option.bind_some, if_pos (by unfold bv; rw [if_neg (by omega), hsp x (by omega) (by omega)]; rfl), h13, l_1, ι_add]
    exact a1
theorem r_look {B : Nat → Nat} {m p : Nat} {τ : Mem} (h : BR B m τ) (hp : p ≤ m) (h13 : τ 0 13 = ι p) : ∃ υ, fX12_look τ = some (bv B m (Skp B m p), υ) ∧ υ 0 13 = ι (Skp B m p) ∧ υ 0 14 = ι (Skp B m p) ∧ frL τ υ := by
  obtain ⟨s1, s2, s3, s4⟩ := Skp_spec (B := B) hp
  have hm := h.1
  obtain ⟨υ, a1, a2, a3⟩ := r_l0 s2 s4 (Skp B m p - p) FU p τ (by omega) (by unfold FU; omega) s3 h h13
  have e13 : up υ 0 14 (ι (Skp B m p)) 0 13 = ι (Skp B m p) := by rw [up_j _ _ _ _ _ (by omega)]; exact a2
  have fr : frL τ (up υ 0 14 (ι (Skp B m p))) := fun k j hk => by rw [up_g, if_neg (by omega)]; exact a3 k j (by omega)
  refine ⟨up υ 0 14 (ι (Skp B m p)), ?_, e13, up_e _ _ _ _, fr⟩
  unfold fX12_look
  rw [a1, Option.bind_some, a2, r_here (frM_BR (frL_M fr) h) s2 e13, Option.bind_some]
theorem r_fine {τ : Mem} (h : τ 0 15 = μ) : fX12_isFine τ = some (ι 1) := by
  unfold fX12_isFine; rw [h, if_neg (by decide)]; rfl
theorem r_notf {τ : Mem} {s : Nat} (h : τ 0 15 = ι s) (hs : s ≤ 600) : fX12_isFine τ = some (ι 0) := by
  unfold fX12_isFine; rw [h, if_pos (by rw [l_0, ι_le (by omega) (by omega)]; omega)]; rfl
theorem r_wrong {τ : Mem} (h : τ 0 15 = μ) (x : Int32) : fX12_wrongAt x τ = some (up τ 0 15 x) := by
  unfold fX12_wrongAt; rw [h, if_neg (by decide)]
theorem r_wrong_no {τ : Mem} {s : Nat} (h : τ 0 15 = ι s) (hs : s ≤ 600) (x : Int32) : fX12_wrongAt x τ = some τ := by
  unfold fX12_wrongAt; rw [h, if_pos (by rw [l_0, ι_le (by omega) (by omega)]; omega)]
theorem r_isLetter {b : Nat} (hb : b < 256) (τ : Mem) : fX12_isLetter (sx b) τ = some (if 97 ≤ b ∧ b ≤ 122 then ι 1 else ι 0) := by
  unfold fX12_isLetter sx
  by_cases h : b < 128
  · rw [nar_0 b h]
    simp (disch := omega) only [l_0, l_1, l_2, l_3, l_4, l_5, l_6, l_7, l_8, l_9, l_10, l_12, l_13, l_24, l_31, l_32, l_40, l_41, l_42, l_44, l_45, l_48, l_49, l_50, l_57, l_59, l_60, l_65, l_88, l_89, l_97, l_98, l_99, l_100, l_105, l_108, l_109, l_114, l_118, l_120, l_122, l_144, l_255, l_269, l_279, l_339, l_400, l_600, l_999, l_1000, l_2373, l_2712, ι_lt, ι_le, ι_eq, ι_add, ι_mul, ι_sub, ι_div, ι_n, ι_m1, m1_ι, m1_lt, m1_le, lt_m1, le_m1, m1_lt_m1, m1_le_m1, m1_add1, neg_ι1, ι_addm, ι_addn, Bool.false_eq_true, Nat.not_lt_zero, Nat.add_zero, Nat.zero_add, Nat.mul_zero, Nat.reduceMul, Nat.reduceAdd, Nat.reduceSub, Nat.reduceLT, Nat.reduceLeDiff, Nat.reduceEqDiff, Nat.reduceDiv, Nat.reduceBEq, Nat.reduceBNe, false_or, or_false, true_or, or_true, and_true, true_and, false_and, and_false, not_false_eq_true, not_true_eq_false, if_true, if_false, if_pos, if_neg, Option.bind_some, ite_false, ite_true, eq_self, reduceIte]
    repeat' split
    all_goals first | rfl | omega
  · have h1 := sx_hi (b - 128) (by omega)
    rw [show b - 128 + 128 = b by omega] at h1
    rw [if_pos (by rw [l_97, (neg0 h1 (by omega)).2.1]; exact trivial), if_neg (by omega)]; rfl
theorem r_l19 {B : Nat → Nat} {m t w : Nat} {τ : Mem} (hB : BR B m τ) (ht : t ≤ m) (h2 : t < m → ¬ (97 ≤ B t ∧ B t ≤ 122)) : ∀ d n x, x + d = t → d < n → (∀ i, x ≤ i → i < t → 97 ≤ B i ∧ B i ≤ 122) → fX12_takes_l19 w n (ι x) τ = some (ι t) := by
  have hm := hB.1
  intro m
  induction m with
  | zero =>
    intro n x h hn hd
    obtain ⟨n, rfl⟩ : ∃ k, n = k + 1 := ⟨n - 1, by omega⟩
    rw [fX12_takes_l19]
    have e : x = t := by omega
    subst e
    rw [hB.2.1]
    by_cases c : m ≤ x
    · rw [if_pos (by rw [ι_le (by omega) (by omega)]; exact c)]
    · have hb := hB.2.2 x (by omega)
      rw [if_neg (by rw [ι_le (by omega) (by omega)]; exact c), if_neg (by simp (disch := omega) only [l_0, l_1, l_2, l_3, l_4, l_5, l_6, l_7, l_8, l_9, l_10, l_12, l_13, l_24, l_31, l_32, l_40, l_41, l_42, l_44, l_45, l_48, l_49, l_50, l_57, l_59, l_60, l_65, l_88, l_89, l_97, l_98, l_99, l_100, l_105, l_108, l_109, l_114, l_118, l_120, l_122, l_144, l_255, l_269, l_279, l_339, l_400, l_600, l_999, l_1000, l_2373, l_2712, ι_lt, ι_le, ι_eq, ι_add, ι_mul, ι_sub, ι_div, ι_n, ι_m1, m1_ι, m1_lt, m1_le, lt_m1, le_m1, m1_lt_m1, m1_le_m1, m1_add1, neg_ι1, ι_addm, ι_addn, Bool.false_eq_true, Nat.not_lt_zero, Nat.add_zero, Nat.zero_add, Nat.mul_zero, Nat.reduceMul, Nat.reduceAdd, Nat.reduceSub, Nat.reduceLT, Nat.reduceLeDiff, Nat.reduceEqDiff, Nat.reduceDiv, Nat.reduceBEq, Nat.reduceBNe, false_or, or_false, true_or, or_true, and_true, true_and, false_and, and_false, not_false_eq_true, not_true_eq_false, if_true, if_false, if_pos, if_neg, Option.bind_some, ite_false, ite_true, eq_self, reduceIte, lm_0, lm_1, lm_2, lm_3, lm_4, lm_5, lm_6, lm_7, lm_8, lm_9, lm_10, lm_11, lm_12, lm_13, lm_14, lm_15, lm_16, lm_17]; omega), ι_n (by omega), hb.2, r_isLetter hb.1, Option.bind_some, if_neg (h2 (by omega)), if_pos (show ι 0 = (0 : Int32) from rfl)]
  | succ m ih =>
    intro n x h hn hd
    obtain ⟨n, rfl⟩ : ∃ k, n = k + 1 := ⟨n - 1, by omega⟩
    rw [fX12_takes_l19]
    have hb := hB.2.2 x (by omega)
    rw [hB.2.1, if_neg (by rw [ι_le (by omega) (by omega)]; omega), if_neg (by simp (disch := omega) only [l_0, l_1, l_2, l_3, l_4, l_5, l_6, l_7, l_8, l_9, l_10, l_12, l_13, l_24, l_31, l_32, l_40, l_41, l_42, l_44, l_45, l_48, l_49, l_50, l_57, l_59, l_60, l_65, l_88, l_89, l_97, l_98, l_99, l_100, l_105, l_108, l_109, l_114, l_118, l_120, l_122, l_144, l_255, l_269, l_279, l_339, l_400, l_600, l_999, l_1000, l_2373, l_2712, ι_lt, ι_le, ι_eq, ι_add, ι_mul, ι_sub, ι_div, ι_n, ι_m1, m1_ι, m1_lt, m1_le, lt_m1, le_m1, m1_lt_m1, m1_le_m1, m1_add1, neg_ι1, ι_addm, ι_addn, Bool.false_eq_true, Nat.not_lt_zero, Nat.add_zero, Nat.zero_add, Nat.mul_zero, Nat.reduceMul, Nat.reduceAdd, Nat.reduceSub, Nat.reduceLT, Nat.reduceLeDiff, Nat.reduceEqDiff, Nat.reduceDiv, Nat.reduceBEq, Nat.reduceBNe, false_or, or_false, true_or, or_true, and_true, true_and, false_and, and_false, not_false_eq_true, not_true_eq_false, if_true, if_false, if_pos, if_neg, Option.bind_some, ite_false, ite_true, eq_self, reduceIte, lm_0, lm_1, lm_2, lm_3, lm_4, lm_5, lm_6, lm_7, lm_8, lm_9, lm_10, lm_11, lm_12, lm_13, lm_14, lm_15, lm_16, lm_17]; omega), ι_n (by omega), hb.2, r_isLetter hb.1, Option.bind_some, if_pos (hd x (by omega) (by omega)), if_neg (by decide), l_1, ι_add]
    exact ih n (x + 1) (by omega) (by omega) (fun i g1 g2 => hd i (by omega) g2)
theorem r_l63 {B : Nat → Nat} {m s w : Nat} {τ : Mem} {X : Int32} (hB : BR B m τ) (h13 : τ 0 13 = ι s) (hw : s + wln w ≤ m) (hw7 : wln w ≤ 7) (hl : ∀ i, s ≤ i → i < s + wln w → 97 ≤ B i ∧ B i ≤ 122) : ∀ d n i, i + d = wln w → d < n → fX12_takes_l63 w X n (ι i) τ = some (if ff (wq B w s) i d = none then .inr (ι (wln w)) else .inl (ι 0, τ)) := by
  have hm := hB.1
  have el : Int32.ofNat (bytL.getD w []).length = ι (wln w) := rfl
  have el2 : (bytL.getD w []).length = wln w := rfl
  intro m
  induction m with
  | zero =>
    intro n i h hn
    obtain ⟨n, rfl⟩ : ∃ k, n = k + 1 := ⟨n - 1, by omega⟩
    rw [fX12_takes_l63]
    have e : i = wln w := by omega
    rw [el, if_pos (by rw [ι_le (by omega) (by omega)]; omega), ff, if_pos rfl, e]
  | succ m ih =>
    intro n i h hn
    obtain ⟨n, rfl⟩ : ∃ k, n = k + 1 := ⟨n - 1, by omega⟩
    rw [fX12_takes_l63]
    have hb := hB.2.2 (s + i) (by omega)
    have hc := hl (s + i) (by omega) (by omega)
    have hx : τ 7 (s + i) = ι (B (s + i)) := by rw [hb.2]; unfold sx; rw [nar_0 _ (by omega)]
    rw [el, if_neg (by rw [ι_le (by omega) (by omega)]; omega), h13, ι_add, if_neg (by simp (disch := omega) only [l_0, l_1, l_2, l_3, l_4, l_5, l_6, l_7, l_8, l_9, l_10, l_12, l_13, l_24, l_31, l_32, l_40, l_41, l_42, l_44, l_45, l_48, l_49, l_50, l_57, l_59, l_60, l_65, l_88, l_89, l_97, l_98, l_99, l_100, l_105, l_108, l_109, l_114, l_118, l_120, l_122, l_144, l_255, l_269, l_279, l_339, l_400, l_600, l_999, l_1000, l_2373, l_2712, ι_lt, ι_le, ι_eq, ι_add, ι_mul, ι_sub, ι_div, ι_n, ι_m1, m1_ι, m1_lt, m1_le, lt_m1, le_m1, m1_lt_m1, m1_le_m1, m1_add1, neg_ι1, ι_addm, ι_addn, Bool.false_eq_true, Nat.not_lt_zero, Nat.add_zero, Nat.zero_add, Nat.mul_zero, Nat.reduceMul, Nat.reduceAdd, Nat.reduceSub, Nat.reduceLT, Nat.reduceLeDiff, Nat.reduceEqDiff, Nat.reduceDiv, Nat.reduceBEq, Nat.reduceBNe, false_or, or_false, true_or, or_true, and_true, true_and, false_and, and_false, not_false_eq_true, not_true_eq_false, if_true, if_false, if_pos, if_neg, Option.bind_some, ite_false, ite_true, eq_self, reduceIte, lm_0, lm_1, lm_2, lm_3, lm_4, lm_5, lm_6, lm_7, lm_8, lm_9, lm_10, lm_11, lm_12, lm_13, lm_14, lm_15, lm_16, lm_17]; omega), el2, if_neg (by simp (disch := omega) only [l_0, l_1, l_2, l_3, l_4, l_5, l_6, l_7, l_8, l_9, l_10, l_12, l_13, l_24, l_31, l_32, l_40, l_41, l_42, l_44, l_45, l_48, l_49, l_50, l_57, l_59, l_60, l_65, l_88, l_89, l_97, l_98, l_99, l_100, l_105, l_108, l_109, l_114, l_118, l_120, l_122, l_144, l_255, l_269, l_279, l_339, l_400, l_600, l_999, l_1000, l_2373, l_2712, ι_lt, ι_le, ι_eq, ι_add, ι_mul, ι_sub, ι_div, ι_n, ι_m1, m1_ι, m1_lt, m1_le, lt_m1, le_m1, m1_lt_m1, m1_le_m1, m1_add1, neg_ι1, ι_addm, ι_addn, Bool.false_eq_true, Nat.not_lt_zero, Nat.add_zero, Nat.zero_add, Nat.mul_zero, Nat.reduceMul, Nat.reduceAdd, Nat.reduceSub, Nat.reduceLT, Nat.reduceLeDiff, Nat.reduceEqDiff, Nat.reduceDiv, Nat.reduceBEq, Nat.reduceBNe, false_or, or_false, true_or, or_true, and_true, true_and, false_and, and_false, not_false_eq_true, not_true_eq_false, if_true, if_false, if_pos, if_neg, Option.bind_some, ite_false, ite_true, eq_self, reduceIte]; omega), ι_n (by omega), ι_n (by omega), hx, ff, l_1, ι_add]
    by_cases e : ι (B (s + i)) = (bytL.getD w []).getD i 0
    · have hq : ¬ wq B w s i = true := by unfold wq; rw [decide_eq_true_eq]; exact fun z => z e
      rw [if_pos e, if_neg hq]
      exact ih n (i + 1) (by omega) (by omega)
    · have hq : wq B w s i = true := by unfold wq; rw [decide_eq_true_eq]; exact e
      rw [if_neg e, if_pos hq, if_neg (by simp)]; rfl
def RP (B : Nat → Nat) (m : Nat) (τ : Mem) (p : Nat) : Prop := BR B m τ ∧ p ≤ m ∧ τ 0 13 = ι p ∧ τ 0 15 = μ
theorem r_takes {B : Nat → Nat} {m p s w : Nat} {τ : Mem} (h : RP B m τ p) (hs : Skp B m p = s) (hw1 : 1 ≤ wln w) (hw7 : wln w ≤ 7) : ∃ υ, fX12_takes w τ = some (if isW B m w s then ι 1 else ι 0, υ) ∧ RP B m υ (if isW B m w s then Tk B m s else s) ∧ υ 0 14 = ι s ∧ frL τ υ := by
  obtain ⟨hB, hp, h13, h15⟩ := h
  have hm := hB.1
  obtain ⟨s1, s2, s3, s4⟩ := Skp_spec (B := B) hp
  obtain ⟨υ, a1, a2, a3, a4⟩ := r_look hB hp h13
  rw [hs] at s1 s2 s3 s4 a1 a2 a3
  obtain ⟨t1, t2, t3, t4⟩ := Tk_spec (B := B) s2
  have hB2 := frM_BR (frL_M a4) hB
  have e15 : υ 0 15 = μ := (a4 0 15 (by omega)).trans h15
  have el : Int32.ofNat (bytL.getD w []).length = ι (wln w) := rfl
  unfold fX12_takes
  rw [r_fine h15, Option.bind_some, if_neg (by decide), a1, Option.bind_some]
  show ∃ ω, ((fX12_takes_l19 w FU (υ 0 13) υ).bind fun q19 => fX12_takes_j45 w q19 υ) = some (if isW B m w s = true then ι 1 else ι 0, ω) ∧ _
  unfold fX12_takes_j45
  rw [a2, el]
  have hno : isW B m w s = false → ∃ ω, (some ((0 : Int32), υ) : Option (Int32 × Mem)) = some (if isW B m w s = true then ι 1 else ι 0, ω) ∧ RP B m ω (if isW B m w s = true then Tk B m s else s) ∧ ω 0 14 = ι s ∧ frL τ ω := fun z => by
    rw [z]
    exact ⟨υ, rfl, ⟨hB2, s2, a2, e15⟩, a3, a4⟩
  by_cases k1 : Kd B m s = 1
  · obtain ⟨g1, g2⟩ := t3 (by omega)
    have hlet : ∀ i, s ≤ i → i < Tk B m s → 97 ≤ B i ∧ B i ≤ 122 := fun i z1 z2 => by
      have := g1 i z1 z2
      rw [k1] at this
      exact (Kd_1.mp this).2
    rw [r_l19 hB2 t2 (fun z y => by
      have := (Kd_1 (B := B)).mpr ⟨z, y⟩
      omega) (Tk B m s - s) FU s (by omega) (by unfold FU; omega) hlet, Option.bind_some, ι_sub t1, ite_eq (by omega) (by omega)]
    by_cases c2 : Tk B m s - s = wln w
    · rw [if_pos c2, l_0, r_l63 (X := ι (Tk B m s)) hB2 a2 (by omega) hw7 (fun i z1 z2 => hlet i z1 (by omega)) (wln w) FU 0 (by omega) (by unfold FU; omega), Option.bind_some]
      by_cases c3 : ff (wq B w s) 0 (wln w) = none
      · rw [if_pos c3]
        have hi : isW B m w s = true := by unfold isW; rw [decide_eq_true_eq]; exact ⟨k1, by omega, c3⟩
        rw [hi]
        refine ⟨up υ 0 13 (ι (Tk B m s)), rfl, ⟨BR_c hB2 (up_j _ _ _ _ _ (by omega)) (up_k _ _ _ _ _ (by omega)), t2, up_e _ _ _ _, ?_⟩, ?_, fun k j hk => ?_⟩
        · rw [up_j _ _ _ _ _ (by omega)]; exact e15
        · rw [up_j _ _ _ _ _ (by omega)]; exact a3
        · rw [up_g, if_neg (by omega)]; exact a4 k j hk
      · rw [if_neg c3]
        exact hno (by unfold isW; rw [decide_eq_false_iff_not]; exact fun z => c3 z.2.2)
    · rw [if_neg c2]
      exact hno (by unfold isW; rw [decide_eq_false_iff_not]; omega)
  · rw [r_l19 hB2 s2 (fun z y => k1 (Kd_1.mpr ⟨z, y⟩)) 0 FU s (by omega) (by unfold FU; omega) (fun i z1 z2 => by omega), Option.bind_some, ι_sub (Nat.le_refl s), Nat.sub_self, ite_eq (by omega) (by omega), if_neg (by omega)]
    exact hno (by unfold isW; rw [decide_eq_false_iff_not]; exact fun z => k1 z.1)
theorem r_isDigit {B : Nat → Nat} {m i : Nat} (hb : i < m → B i < 256) (τ : Mem) : fX12_isDigit (bv B m i) τ = some (if Kd B m i = 2 then ι 1 else ι 0) := by
  unfold fX12_isDigit bv
  by_cases c : m ≤ i
  · rw [if_pos c, if_pos (by decide), if_neg (fun z => by have := (Kd_2.mp z).1; omega)]; rfl
  · have := hb (by omega)
    rw [if_neg c]
    simp (disch := omega) only [l_0, l_1, l_2, l_3, l_4, l_5, l_6, l_7, l_8, l_9, l_10, l_12, l_13, l_24, l_31, l_32, l_40, l_41, l_42, l_44, l_45, l_48, l_49, l_50, l_57, l_59, l_60, l_65, l_88, l_89, l_97, l_98, l_99, l_100, l_105, l_108, l_109, l_114, l_118, l_120, l_122, l_144, l_255, l_269, l_279, l_339, l_400, l_600, l_999, l_1000, l_2373, l_2712, ι_lt, ι_le, ι_eq, ι_add, ι_mul, ι_sub, ι_div, ι_n, ι_m1, m1_ι, m1_lt, m1_le, lt_m1, le_m1, m1_lt_m1, m1_le_m1, m1_add1, neg_ι1, ι_addm, ι_addn, Bool.false_eq_true, Nat.not_lt_zero, Nat.add_zero, Nat.zero_add, Nat.mul_zero, Nat.reduceMul, Nat.reduceAdd, Nat.reduceSub, Nat.reduceLT, Nat.reduceLeDiff, Nat.reduceEqDiff, Nat.reduceDiv, Nat.reduceBEq, Nat.reduceBNe, false_or, or_false, true_or, or_true, and_true, true_and, false_and, and_false, not_false_eq_true, not_true_eq_false, if_true, if_false, if_pos, if_neg, Option.bind_some, ite_false, ite_true, eq_self, reduceIte]
    by_cases k2 : Kd B m i = 2
    · have z := Kd_2.mp k2
      rw [if_pos k2, if_neg (by omega), if_neg (by omega)]
    · rw [if_neg k2]
      by_cases c1 : B i < 48
      · rw [if_pos c1]
      · rw [if_neg c1, if_pos]
        exact Nat.lt_of_not_le fun z => k2 (Kd_2.mpr ⟨by omega, by omega, z⟩)
theorem r_l17 {B : Nat → Nat} {m t s : Nat} {X Z : Int32} (ht : t ≤ m) (h2 : Kd B m t ≠ 2) : ∀ d n x a (τ : Mem), x + d = t → d < n → s ≤ x → (∀ i, x ≤ i → i < t → Kd B m i = 2) → BR B m τ → τ 0 13 = ι x → τ 0 14 = ι s → ∃ a' υ, fX12_number_l17 X Z n (ι a) τ = some (ι a', υ) ∧ υ 0 13 = ι t ∧ (t - s ≤ 4 → a' = nm B x d a) ∧ ∀ k j, ¬ (k = 0 ∧ j = 13) → υ k j = τ k j := by
  intro d
  induction d with
  | zero =>
    intro n x a τ hx hn hsx hd hB h13 h14
    obtain ⟨n, rfl⟩ : ∃ k, n = k + 1 := ⟨n - 1, by omega⟩
    have e : x = t := by omega
    subst e
    refine ⟨a, τ, ?_, h13, fun _ => rfl, fun _ _ _ => rfl⟩
    rw [fX12_number_l17, r_here hB ht h13, Option.bind_some, r_isDigit (fun z => (hB.2.2 x z).1), Option.bind_some, if_neg h2, if_pos (show ι 0 = (0 : Int32) from rfl)]
  | succ d ih =>
    intro n x a τ hx hn hsx hd hB h13 h14
    obtain ⟨n, rfl⟩ : ∃ k, n = k + 1 := ⟨n - 1, by omega⟩
    have hm := hB.1
    have k2 := hd x (by omega) (by omega)
    have hb := Kd_2.mp k2
    have step : ∀ y, ∃ a' υ, fX12_number_l17 X Z n (ι y) (up τ 0 13 (ι (x + 1))) = some (ι a', υ) ∧ υ 0 13 = ι t ∧ (t - s ≤ 4 → a' = nm B (x + 1) d y) ∧ ∀ k j, ¬ (k = 0 ∧ j = 13) → υ k j = τ k j := fun y => by
      obtain ⟨a', υ, b1, b2, b3, b4⟩ := ih n (x + 1) y (up τ 0 13 (ι (x + 1))) (by omega) (by omega) (by omega) (fun i g1 g2 => hd i (by omega) g2) (BR_c hB (up_j _ _ _ _ _ (by omega)) (up_k _ _ _ _ _ (by omega))) (up_e _ _ _ _) (by rw [up_j _ _ _ _ _ (by omega)]; exact h14)
      exact ⟨a', υ, b1, b2, b3, fun k j hk => by rw [b4 k j hk, up_g, if_neg hk]⟩
    rw [fX12_number_l17, r_here hB (by omega) h13, Option.bind_some, r_isDigit (fun z => (hB.2.2 x z).1), Option.bind_some, if_pos k2, if_neg (by decide), h13, h14, ι_sub hsx, l_4, l_1, ι_add, Option.bind_some, ite_le (by omega) (by omega)]
    by_cases c : 4 ≤ x - s
    · rw [if_pos c]
      obtain ⟨a', υ, b1, b2, b3, b4⟩ := step a
      exact ⟨a', υ, b1, b2, fun z => by omega, b4⟩
    · rw [if_neg c]
      unfold bv
      rw [if_neg (by omega), l_10, l_48, ι_mul, ι_add, ι_sub (by omega), nm]
      exact step _
def numT (x1 x2 : Int32) (a : Int32) (ω : Mem) : Option (Int32 × Mem) := if (ω 0 13) = (ω 0 14) then ((fX12_wrongAt (ω 0 14) ω).bind fun v115 => some (x1, v115)) else (if (4 : Int32) < ((ω 0 13) - (ω 0 14)) then ((fX12_wrongAt (ω 0 14) ω).bind fun v115 => some (x1, v115)) else ((fX12_isIn a.toInt64 x1.toInt64 x2.toInt64 ω).bind fun v104 => if v104 = 0 then ((fX12_wrongAt (ω 0 14) ω).bind fun v115 => some (x1, v115)) else (some (a, ω))))
theorem number_eq {τ : Mem} (h : τ 0 15 = μ) (x z : Int32) : fX12_number x z τ = (fX12_look τ).bind fun v10 => (fX12_number_l17 x z FU (0 : Int32) v10.2).bind fun q17 => numT x z q17.1 q17.2 := by
  unfold fX12_number; rw [r_fine h, Option.bind_some, if_neg (by decide)]; rfl
theorem r_num {B : Nat → Nat} {m p s x : Nat} {z : Int32} {τ : Mem} (h : RP B m τ p) (hs : Skp B m p = s) (hx : x < 2147483648) :
    (∀ v, nv B m s = some v → ι x ≤ ι v → ι v ≤ z → ∃ υ, fX12_number (ι x) z τ = some (ι v, υ) ∧ RP B m υ (Tk B m s) ∧ υ 0 14 = ι s ∧ frL τ υ) ∧
    ((∀ v, nv B m s = some v → ¬ (ι x ≤ ι v ∧ ι v ≤ z)) → ∃ υ p', fX12_number (ι x) z τ = some (ι x, υ) ∧ υ 0 15 = ι s ∧ p' ≤ m ∧ υ 0 13 = ι p' ∧ frM τ υ) := by
  obtain ⟨hB, hp, h13, h15⟩ := h
  have hm := hB.1
  obtain ⟨s1, s2, s3, s4⟩ := Skp_spec (B := B) hp
  obtain ⟨υ, a1, a2, a3, a4⟩ := r_look hB hp h13
  rw [hs] at s1 s2 s3 s4 a1 a2 a3
  obtain ⟨t1, t2, t3, t4⟩ := Tk_spec (B := B) s2
  have hB2 := frM_BR (frL_M a4) hB
  have e15 : υ 0 15 = μ := (a4 0 15 (by omega)).trans h15
  rw [number_eq h15, a1, Option.bind_some]
  have bad : ∀ (ω : Mem) (p' : Nat), p' ≤ m → ω 0 13 = ι p' → ω 0 14 = ι s → (∀ k j, ¬ (k = 0 ∧ j = 13) → ω k j = υ k j) → ∃ υ p', ((fX12_wrongAt (ω 0 14) ω).bind fun v115 => some (ι x, v115)) = some (ι x, υ) ∧ υ 0 15 = ι s ∧ p' ≤ m ∧ υ 0 13 = ι p' ∧ frM τ υ := fun ω p' q1 q2 q3 q4 => by
    have e : ω 0 15 = μ := (q4 0 15 (by omega)).trans e15
    refine ⟨up ω 0 15 (ι s), p', ?_, up_e _ _ _ _, q1, ?_, fun k j hk => ?_⟩
    · rw [r_wrong e, Option.bind_some, q3]
    · rw [up_j _ _ _ _ _ (by omega)]; exact q2
    · rw [up_g, if_neg (by omega), q4 k j (by omega)]; exact a4 k j (by omega)
  by_cases k2 : Kd B m s = 2
  · obtain ⟨g1, g2⟩ := t3 (by omega)
    have hlt := t4 (by omega)
    have hkt : Kd B m (Tk B m s) ≠ 2 := by
      rcases g2 with g2 | g2
      · rw [k2] at g2; exact g2
      · have := (Kd_0 (B := B)).mpr (Nat.le_of_eq g2.symm); omega
    obtain ⟨a', ω, b1, b2, b3, b4⟩ := r_l17 (X := ι x) (Z := z) t2 hkt (Tk B m s - s) FU s 0 υ (by omega) (by unfold FU; omega) (Nat.le_refl s) (fun i z1 z2 => by have := g1 i z1 z2; rw [k2] at this; exact this) hB2 a2 a3
    have b1 : fX12_number_l17 (ι x) z FU (0 : Int32) υ = some (ι a', ω) := b1
    have c14 : ω 0 14 = ι s := (b4 0 14 (by omega)).trans a3
    have c15 : ω 0 15 = μ := (b4 0 15 (by omega)).trans e15
    have fr : frL τ ω := fun k j hk => (b4 k j (by omega)).trans (a4 k j hk)
    rw [b1, Option.bind_some]
    dsimp only
    unfold numT
    rw [b2]
    have hne : ¬ ι (Tk B m s) = ω 0 14 := by rw [c14, ι_eq (by omega) (by omega)]; omega
    rw [if_neg hne]
    rw [show ι (Tk B m s) - ω 0 14 = ι (Tk B m s - s) by rw [c14, ι_sub t1], l_4, ite_lt (by omega) (by omega)]
    by_cases c4 : 4 < Tk B m s - s
    · rw [if_pos c4]
      have hn : nv B m s = none := by unfold nv; rw [if_neg (by omega)]
      refine ⟨fun v hv => ?_, fun _ => bad ω _ t2 b2 c14 b4⟩
      rw [hn] at hv; cases hv
    · rw [if_neg c4]
      have ha := b3 (by omega)
      have hn : nv B m s = some a' := by unfold nv; rw [if_pos ⟨k2, by omega⟩, ha]
      rw [r_isIn, Option.bind_some]
      refine ⟨fun v hv h1 h2 => ?_, fun hno => ?_⟩
      · rw [hn] at hv
        cases hv
        rw [if_pos (show ι x ≤ ι a' ∧ ι a' ≤ z from ⟨h1, h2⟩), if_neg (by decide)]
        exact ⟨ω, rfl, ⟨frM_BR (frL_M fr) hB, t2, b2, c15⟩, c14, fr⟩
      · rw [if_neg (hno a' hn), if_pos (show ι 0 = (0 : Int32) from rfl)]
        exact bad ω _ t2 b2 c14 b4
  · obtain ⟨a', ω, b1, b2, b3, b4⟩ := r_l17 (X := ι x) (Z := z) s2 k2 0 FU s 0 υ (by omega) (by unfold FU; omega) (Nat.le_refl s) (fun i z1 z2 => by omega) hB2 a2 a3
    have b1 : fX12_number_l17 (ι x) z FU (0 : Int32) υ = some (ι a', ω) := b1
    have c14 : ω 0 14 = ι s := (b4 0 14 (by omega)).trans a3
    rw [b1, Option.bind_some]
    dsimp only
    unfold numT
    rw [b2, if_pos (by rw [c14])]
    have hn : nv B m s = none := by unfold nv; rw [if_neg (fun z => k2 z.1)]
    refine ⟨fun v hv => ?_, fun _ => bad ω _ s2 b2 c14 b4⟩
    rw [hn] at hv; cases hv

/-! PURE PART: what is read -/
def QP (q : Nat → Int32) (k n : Nat) : Prop := k ≤ 8 ∧ (∀ i, i < k → q i = ι (qN q i) ∧ 1 ≤ qN q i ∧ qN q i ≤ 12) ∧ sm (qN q) 0 k = n ∧ n ≤ 60
def DR (σ τ : Mem) (k n a b : Nat) : Prop := QP (τ 2) k n ∧ τ 0 4 = ι k ∧ FI n a b 0 0 (τ 4) ∧ VR σ 3 (τ 2) k n a (τ 4) ∧ LR σ 14 b (τ 4) ∧ (σ 23 3 = ι 0 ∧ σ 30 1 = ι 0 ∧ σ 30 2 = ι 0 ∧ τ 4 3 = ι 0) ∧ (∀ i, n ≤ i → i < 60 → τ 4 (279 + i) = ι 0)
theorem DR_c {σ τ ρ υ : Mem} {k n a b : Nat} (h : DR σ τ k n a b) (hσ : ∀ j, 3 ≤ j → j ≤ 32 → ρ j = σ j) (h2 : υ 2 = τ 2) (h4 : υ 4 = τ 4) (h04 : υ 0 4 = τ 0 4) : DR ρ υ k n a b := by
  obtain ⟨d1, d2, d3, d4, d5, ⟨d6, d7, d8, d9⟩, d10⟩ := h
  unfold DR
  rw [h2, h4, h04, hσ 23 (by omega) (by omega), hσ 30 (by omega) (by omega)]
  exact ⟨d1, d2, d3, VR_c d1.2.2.2 d3.2.1 d4 (fun j hj => hσ _ (by omega) (by omega)) (fun _ _ => rfl), LR_c d3.2.2.2.2.1 d5 (fun j hj => hσ _ (by omega) (by omega)) (fun _ _ => rfl), ⟨d6, d7, d8, d9⟩, d10⟩
theorem QP_pos {q : Nat → Int32} {k n : Nat} (h : QP q k n) (hk : 1 ≤ k) : 1 ≤ n := by
  have h0 := h.2.1 0 (by omega)
  have h1 := sm_mono (qN q) hk
  rw [h.2.2.1] at h1
  have : sm (qN q) 0 1 = qN q 0 := by simp [sm]
  omega
theorem r_lv_l {τ : Mem} {k n : Nat} (hQ : QP (τ 2) k n) (h4 : τ 0 4 = ι k) : ∀ m n i c, i + m = k → m < n → fX12_leavesRead_l4 n (ι c) (ι i) τ = some (ι (c + sm (qN (τ 2)) i m), ι k) := by
  have hk := hQ.1
  intro m
  induction m with
  | zero =>
    intro n i c h hn
    obtain ⟨n, rfl⟩ : ∃ k, n = k + 1 := ⟨n - 1, by omega⟩
    rw [fX12_leavesRead_l4]
    have e : i = k := by omega
    rw [h4, if_pos (by rw [ι_le (by omega) (by omega)]; omega), sm, Nat.add_zero, e]
  | succ m ih =>
    intro n i c h hn
    obtain ⟨n, rfl⟩ : ∃ k, n = k + 1 := ⟨n - 1, by omega⟩
    rw [fX12_leavesRead_l4]
    have g := (hQ.2.1 i (by omega)).1
    rw [h4, if_neg (by rw [ι_le (by omega) (by omega)]; omega), if_neg (by simp (disch := omega) only [l_0, l_1, l_2, l_3, l_4, l_5, l_6, l_7, l_8, l_9, l_10, l_12, l_13, l_24, l_31, l_32, l_40, l_41, l_42, l_44, l_45, l_48, l_49, l_50, l_57, l_59, l_60, l_65, l_88, l_89, l_97, l_98, l_99, l_100, l_105, l_108, l_109, l_114, l_118, l_120, l_122, l_144, l_255, l_269, l_279, l_339, l_400, l_600, l_999, l_1000, l_2373, l_2712, ι_lt, ι_le, ι_eq, ι_add, ι_mul, ι_sub, ι_div, ι_n, ι_m1, m1_ι, m1_lt, m1_le, lt_m1, le_m1, m1_lt_m1, m1_le_m1, m1_add1, neg_ι1, ι_addm, ι_addn, Bool.false_eq_true, Nat.not_lt_zero, Nat.add_zero, Nat.zero_add, Nat.mul_zero, Nat.reduceMul, Nat.reduceAdd, Nat.reduceSub, Nat.reduceLT, Nat.reduceLeDiff, Nat.reduceEqDiff, Nat.reduceDiv, Nat.reduceBEq, Nat.reduceBNe, false_or, or_false, true_or, or_true, and_true, true_and, false_and, and_false, not_false_eq_true, not_true_eq_false, if_true, if_false, if_pos, if_neg, Option.bind_some, ite_false, ite_true, eq_self, reduceIte, lm_0, lm_1, lm_2, lm_3, lm_4, lm_5, lm_6, lm_7, lm_8, lm_9, lm_10, lm_11, lm_12, lm_13, lm_14, lm_15, lm_16, lm_17]; omega), ι_n (by omega), g, ι_add, l_1, ι_add, ih n _ _ (by omega) (by omega), sm]
    congr 3; omega
theorem r_leavesRead {τ : Mem} {k n : Nat} (hQ : QP (τ 2) k n) (h4 : τ 0 4 = ι k) : fX12_leavesRead τ = some (ι n) := by
  have hk := hQ.1
  unfold fX12_leavesRead
  rw [l_0, r_lv_l hQ h4 k FU 0 0 (by omega) (by unfold FU; omega), Option.bind_some, hQ.2.2.1, Nat.zero_add]
theorem SlI_up {n n' s : Nat} {F : Nat → Int32} (h : SlI n F s) (hn : n ≤ n') : SlI n' F s := by
  obtain ⟨h1, h2⟩ := h
  refine ⟨?_, h2⟩
  rcases h1 with z | ⟨x, y, z1, z2⟩
  · exact Or.inl z
  · exact Or.inr ⟨x, y, by omega, z2⟩
theorem RgI_up {n n' s : Nat} {F : Nat → Int32} (h : RgI n F s) (hn : n ≤ n') : RgI n' F s := by
  obtain ⟨a, b, c, d, h1, h2, h3⟩ := h
  exact ⟨a, b, c, d, h1, by omega, h3⟩
theorem c_tq {σ : Mem} {k : Nat} (h : σ 3 5 = ι k) (hk : k ≤ 8) : fX10_takesQuire 3 σ = some (if k < 8 then ι 1 else ι 0) := by
  unfold fX10_takesQuire
  rw [h, l_8, ite_le (by omega) (by omega)]
  by_cases c : 8 ≤ k
  · rw [if_pos c, if_neg (by omega)]; rfl
  · rw [if_neg c, if_pos (by omega)]; rfl
def tlB (n v : Nat) : Prop := 2 ≤ v ∧ v ≤ 12 ∧ v % 2 = 0 ∧ n + v ≤ 60
theorem c_tl {σ : Mem} {n v : Nat} (h : σ 3 6 = ι n) (hn : n ≤ 60) (hv : v < 10000) (ht : tlB n v) : fX10_takesLeaves 3 (ι v) σ = some (ι 1) := by
  obtain ⟨t1, t2, t3, t4⟩ := ht
  unfold fX10_takesLeaves
  rw [h]
  simp (disch := omega) only [l_0, l_1, l_2, l_3, l_4, l_5, l_6, l_7, l_8, l_9, l_10, l_12, l_13, l_24, l_31, l_32, l_40, l_41, l_42, l_44, l_45, l_48, l_49, l_50, l_57, l_59, l_60, l_65, l_88, l_89, l_97, l_98, l_99, l_100, l_105, l_108, l_109, l_114, l_118, l_120, l_122, l_144, l_255, l_269, l_279, l_339, l_400, l_600, l_999, l_1000, l_2373, l_2712, ι_lt, ι_le, ι_eq, ι_add, ι_mul, ι_sub, ι_div, ι_n, ι_m1, m1_ι, m1_lt, m1_le, lt_m1, le_m1, m1_lt_m1, m1_le_m1, m1_add1, neg_ι1, ι_addm, ι_addn, Bool.false_eq_true, Nat.not_lt_zero, Nat.add_zero, Nat.zero_add, Nat.mul_zero, Nat.reduceMul, Nat.reduceAdd, Nat.reduceSub, Nat.reduceLT, Nat.reduceLeDiff, Nat.reduceEqDiff, Nat.reduceDiv, Nat.reduceBEq, Nat.reduceBNe, false_or, or_false, true_or, or_true, and_true, true_and, false_and, and_false, not_false_eq_true, not_true_eq_false, if_true, if_false, if_pos, if_neg, Option.bind_some, ite_false, ite_true, eq_self, reduceIte]
theorem c_tl_no {σ : Mem} {n v : Nat} (h : σ 3 6 = ι n) (hn : n ≤ 60) (hv : v < 10000) (ht : ¬ tlB n v) : fX10_takesLeaves 3 (ι v) σ = some (ι 0) := by
  unfold tlB at ht
  unfold fX10_takesLeaves
  rw [h]
  by_cases c1 : v < 2
  · simp (disch := omega) only [l_0, l_1, l_2, l_3, l_4, l_5, l_6, l_7, l_8, l_9, l_10, l_12, l_13, l_24, l_31, l_32, l_40, l_41, l_42, l_44, l_45, l_48, l_49, l_50, l_57, l_59, l_60, l_65, l_88, l_89, l_97, l_98, l_99, l_100, l_105, l_108, l_109, l_114, l_118, l_120, l_122, l_144, l_255, l_269, l_279, l_339, l_400, l_600, l_999, l_1000, l_2373, l_2712, ι_lt, ι_le, ι_eq, ι_add, ι_mul, ι_sub, ι_div, ι_n, ι_m1, m1_ι, m1_lt, m1_le, lt_m1, le_m1, m1_lt_m1, m1_le_m1, m1_add1, neg_ι1, ι_addm, ι_addn, Bool.false_eq_true, Nat.not_lt_zero, Nat.add_zero, Nat.zero_add, Nat.mul_zero, Nat.reduceMul, Nat.reduceAdd, Nat.reduceSub, Nat.reduceLT, Nat.reduceLeDiff, Nat.reduceEqDiff, Nat.reduceDiv, Nat.reduceBEq, Nat.reduceBNe, false_or, or_false, true_or, or_true, and_true, true_and, false_and, and_false, not_false_eq_true, not_true_eq_false, if_true, if_false, if_pos, if_neg, Option.bind_some, ite_false, ite_true, eq_self, reduceIte]
  · by_cases c2 : 12 < v
    · simp (disch := omega) only [l_0, l_1, l_2, l_3, l_4, l_5, l_6, l_7, l_8, l_9, l_10, l_12, l_13, l_24, l_31, l_32, l_40, l_41, l_42, l_44, l_45, l_48, l_49, l_50, l_57, l_59, l_60, l_65, l_88, l_89, l_97, l_98, l_99, l_100, l_105, l_108, l_109, l_114, l_118, l_120, l_122, l_144, l_255, l_269, l_279, l_339, l_400, l_600, l_999, l_1000, l_2373, l_2712, ι_lt, ι_le, ι_eq, ι_add, ι_mul, ι_sub, ι_div, ι_n, ι_m1, m1_ι, m1_lt, m1_le, lt_m1, le_m1, m1_lt_m1, m1_le_m1, m1_add1, neg_ι1, ι_addm, ι_addn, Bool.false_eq_true, Nat.not_lt_zero, Nat.add_zero, Nat.zero_add, Nat.mul_zero, Nat.reduceMul, Nat.reduceAdd, Nat.reduceSub, Nat.reduceLT, Nat.reduceLeDiff, Nat.reduceEqDiff, Nat.reduceDiv, Nat.reduceBEq, Nat.reduceBNe, false_or, or_false, true_or, or_true, and_true, true_and, false_and, and_false, not_false_eq_true, not_true_eq_false, if_true, if_false, if_pos, if_neg, Option.bind_some, ite_false, ite_true, eq_self, reduceIte]
    · by_cases c3 : v % 2 = 0
      · simp (disch := omega) only [l_0, l_1, l_2, l_3, l_4, l_5, l_6, l_7, l_8, l_9, l_10, l_12, l_13, l_24, l_31, l_32, l_40, l_41, l_42, l_44, l_45, l_48, l_49, l_50, l_57, l_59, l_60, l_65, l_88, l_89, l_97, l_98, l_99, l_100, l_105, l_108, l_109, l_114, l_118, l_120, l_122, l_144, l_255, l_269, l_279, l_339, l_400, l_600, l_999, l_1000, l_2373, l_2712, ι_lt, ι_le, ι_eq, ι_add, ι_mul, ι_sub, ι_div, ι_n, ι_m1, m1_ι, m1_lt, m1_le, lt_m1, le_m1, m1_lt_m1, m1_le_m1, m1_add1, neg_ι1, ι_addm, ι_addn, Bool.false_eq_true, Nat.not_lt_zero, Nat.add_zero, Nat.zero_add, Nat.mul_zero, Nat.reduceMul, Nat.reduceAdd, Nat.reduceSub, Nat.reduceLT, Nat.reduceLeDiff, Nat.reduceEqDiff, Nat.reduceDiv, Nat.reduceBEq, Nat.reduceBNe, false_or, or_false, true_or, or_true, and_true, true_and, false_and, and_false, not_false_eq_true, not_true_eq_false, if_true, if_false, if_pos, if_neg, Option.bind_some, ite_false, ite_true, eq_self, reduceIte]
      · simp (disch := omega) only [l_0, l_1, l_2, l_3, l_4, l_5, l_6, l_7, l_8, l_9, l_10, l_12, l_13, l_24, l_31, l_32, l_40, l_41, l_42, l_44, l_45, l_48, l_49, l_50, l_57, l_59, l_60, l_65, l_88, l_89, l_97, l_98, l_99, l_100, l_105, l_108, l_109, l_114, l_118, l_120, l_122, l_144, l_255, l_269, l_279, l_339, l_400, l_600, l_999, l_1000, l_2373, l_2712, ι_lt, ι_le, ι_eq, ι_add, ι_mul, ι_sub, ι_div, ι_n, ι_m1, m1_ι, m1_lt, m1_le, lt_m1, le_m1, m1_lt_m1, m1_le_m1, m1_add1, neg_ι1, ι_addm, ι_addn, Bool.false_eq_true, Nat.not_lt_zero, Nat.add_zero, Nat.zero_add, Nat.mul_zero, Nat.reduceMul, Nat.reduceAdd, Nat.reduceSub, Nat.reduceLT, Nat.reduceLeDiff, Nat.reduceEqDiff, Nat.reduceDiv, Nat.reduceBEq, Nat.reduceBNe, false_or, or_false, true_or, or_true, and_true, true_and, false_and, and_false, not_false_eq_true, not_true_eq_false, if_true, if_false, if_pos, if_neg, Option.bind_some, ite_false, ite_true, eq_self, reduceIte]
theorem c_tl_neg {σ : Mem} : fX10_takesLeaves 3 μ σ = some (ι 0) := by
  unfold fX10_takesLeaves
  rw [if_pos (by decide)]; rfl
theorem c_l17 {v n : Nat} (hv : n + v ≤ 60) (hl : ln (3 + 3 + 1) = 60) : ∀ d f i (σ : Mem), i + d = v → d < f → σ 3 6 = ι n → ∃ z ρ, fX10_addQuire_l17 3 (ι v) f (ι i) σ = some (z, ρ) ∧ (∀ j, n + i ≤ j → j < n + v → ρ 7 j = ι 0) ∧ ∀ k j, ¬ (k = 7 ∧ n + i ≤ j ∧ j < n + v) → ρ k j = σ k j := by
  intro d
  induction d with
  | zero =>
    intro f i σ h hf h6
    obtain ⟨f, rfl⟩ : ∃ k, f = k + 1 := ⟨f - 1, by omega⟩
    rw [fX10_addQuire_l17, if_pos (by rw [ι_le (by omega) (by omega)]; omega)]
    exact ⟨_, _, rfl, fun j h1 h2 => by omega, fun _ _ _ => rfl⟩
  | succ d ih =>
    intro f i σ h hf h6
    obtain ⟨f, rfl⟩ : ∃ k, f = k + 1 := ⟨f - 1, by omega⟩
    rw [fX10_addQuire_l17, if_neg (by rw [ι_le (by omega) (by omega)]; omega), h6, ι_add, c_put hl (by omega) (by omega), Option.bind_some, l_1, ι_add]
    obtain ⟨z, ρ, b1, b2, b3⟩ := ih f (i + 1) (up σ (3 + 3 + 1) (n + i) (0 : Int32)) (by omega) (by omega) (by rw [up_k _ _ _ _ _ (by omega)]; exact h6)
    refine ⟨z, ρ, b1, fun j h1 h2 => ?_, fun k j hk => ?_⟩
    · by_cases e : j = n + i
      · rw [b3 7 j (by omega), e]; exact up_e _ _ _ _
      · exact b2 j (by omega) h2
    · rw [b3 k j (by omega), up_g, if_neg (by omega)]
theorem quire_DR {σ τ υ : Mem} {k n a b v : Nat} (h : DR σ τ k n a b) (hk : k < 8) (ht : tlB n v) (u2 : υ 2 k = ι v) (u2' : ∀ i, i ≠ k → υ 2 i = τ 2 i) (u4 : υ 4 = τ 4) (u04 : υ 0 4 = ι (k + 1)) : ∃ ρ, fX10_addQuire 3 (ι v) σ = some ρ ∧ DR ρ υ (k + 1) (n + v) a b ∧ ∀ j, ¬ (3 ≤ j ∧ j ≤ 32) → ρ j = σ j := by
  obtain ⟨d1, d2, d3, d4, d5, ⟨d6, d7, d8, d9⟩, d10⟩ := h
  obtain ⟨q1, q2, q3, q4⟩ := d1
  have ht' := ht
  obtain ⟨t1, t2, t3, t4⟩ := ht
  obtain ⟨v0, v1, v2, v3, v4, v5, v6, v7, v8⟩ := d4
  have v0' := v0
  obtain ⟨l1, l2, l3, l4, l5⟩ := v0
  obtain ⟨z, ρ1, a1, a2, a3⟩ := c_l17 t4 l2 v FU 0 σ (by omega) (by unfold FU; omega) v2
  have a1 : fX10_addQuire_l17 3 (ι v) FU (0 : Int32) σ = some (z, ρ1) := a1
  have e5 : ρ1 3 5 = ι k := (a3 3 5 (by omega)).trans v1
  have e6 : ρ1 3 6 = ι n := (a3 3 6 (by omega)).trans v2
  have hq : ∀ i, i < k → qN (υ 2) i = qN (τ 2) i := fun i hi => by unfold qN; rw [u2' i (by omega)]
  have hqk : qN (υ 2) k = v := by unfold qN; rw [u2, nn_ι (by omega)]
  refine ⟨up (up (up ρ1 5 k (ι v)) 3 5 (ι (k + 1))) 3 6 (ι (n + v)), ?_, ?_, fun j hj => ?_⟩
  · unfold fX10_addQuire
    rw [c_tq v1 q1, Option.bind_some, if_pos hk, if_neg (by decide), c_tl v2 q4 (by omega) ht', Option.bind_some, if_neg (by decide), a1, Option.bind_some]
    show (fX3_put (3 + 1) (ρ1 3 5) (ι v) ρ1).bind _ = _
    rw [e5, c_put l1 (by omega) hk, Option.bind_some]
    have x5 : up ρ1 (3 + 1 + 1) k (ι v) 3 5 = ι k := by rw [up_k _ _ _ _ _ (by omega)]; exact e5
    have x6 : up (up ρ1 (3 + 1 + 1) k (ι v)) 3 5 (ι (k + 1)) 3 6 = ι n := by rw [up_j _ _ _ _ _ (by omega), up_k _ _ _ _ _ (by omega)]; exact e6
    rw [x5, l_1, ι_add, x6, ι_add]
  · have r3 : ∀ j, j ≠ 5 → j ≠ 6 → (up (up (up ρ1 5 k (ι v)) 3 5 (ι (k + 1))) 3 6 (ι (n + v))) 3 j = σ 3 j := fun j h1 h2 => by
      rw [up_j _ _ _ _ _ h2, up_j _ _ _ _ _ h1, up_k _ _ _ _ _ (by omega)]; exact a3 3 j (by omega)
    have rj : ∀ j, j ≠ 3 → j ≠ 5 → (up (up (up ρ1 5 k (ι v)) 3 5 (ι (k + 1))) 3 6 (ι (n + v))) j = ρ1 j := fun j h1 h2 => by
      rw [up_k _ _ _ _ _ h1, up_k _ _ _ _ _ h1, up_k _ _ _ _ _ h2]
    have rk : ∀ j, j ≠ 3 → j ≠ 5 → j ≠ 7 → (up (up (up ρ1 5 k (ι v)) 3 5 (ι (k + 1))) 3 6 (ι (n + v))) j = σ j := fun j h1 h2 h3 => by
      rw [rj j h1 h2]; exact funext fun i => a3 j i (by omega)
    have r5 : ∀ i, (up (up (up ρ1 5 k (ι v)) 3 5 (ι (k + 1))) 3 6 (ι (n + v))) 5 i = if i = k then ι v else σ 5 i := fun i => by
      rw [up_k _ _ _ _ _ (by omega), up_k _ _ _ _ _ (by omega)]
      by_cases e : i = k
      · rw [if_pos e, e, up_e]
      · rw [if_neg e, up_j _ _ _ _ _ e]; exact a3 5 i (by omega)
    have rA : (up (up (up ρ1 5 k (ι v)) 3 5 (ι (k + 1))) 3 6 (ι (n + v))) 3 5 = ι (k + 1) := by rw [up_j _ _ _ _ _ (by omega), up_e]
    have rB : (up (up (up ρ1 5 k (ι v)) 3 5 (ι (k + 1))) 3 6 (ι (n + v))) 3 6 = ι (n + v) := up_e _ _ _ _
    generalize (up (up (up ρ1 5 k (ι v)) 3 5 (ι (k + 1))) 3 6 (ι (n + v))) = ρ at *
    obtain ⟨f1, f2, f3, f4, f5, f6, f7, f8, f9, f10, f11, f12⟩ := d3
    unfold DR
    rw [u4, u04]
    refine ⟨⟨by omega, fun i hi => ?_, ?_, t4⟩, rfl, ⟨f1, f2, fun s hs => SlI_up (f3 s hs) (by omega), f4, f5, fun r hr => RgI_up (f6 r hr) (by omega), f7, f8, fun c hc => by omega, f10, f11, fun i hi => ?_⟩, ⟨v0', rA, rB, ?_, fun i hi => ?_, fun i hi => ?_, fun i hi => ?_, fun i hi => ?_, fun i hi => ?_⟩, LR_c f5 d5 (fun j hj => rk _ (by omega) (by omega) (by omega)) (fun _ _ => rfl), ⟨?_, ?_, ?_, d9⟩, fun i h1 h2 => d10 i (by omega) h2⟩
    · by_cases e : i = k
      · rw [e, hqk, u2]; exact ⟨rfl, by omega, t2⟩
      · rw [hq i (by omega), u2' i e]; exact q2 i (by omega)
    · rw [sm_last, Nat.zero_add, hqk, sm_congr k 0 (fun i _ hi => hq i (by omega)), q3]
    · by_cases e : i < n
      · exact f12 i e
      · exact Or.inl (d10 i (by omega) (by omega))
    · rw [r3 7 (by omega) (by omega)]; exact v3
    · show ρ 5 i = _
      rw [r5 i]
      by_cases e : i = k
      · rw [if_pos e, e, u2]
      · rw [if_neg e, u2' i e]; exact v4 i (by omega)
    · show ρ 7 i = _
      rw [rj 7 (by omega) (by omega)]
      by_cases e : i < n
      · rw [a3 7 i (by omega)]; exact v5 i e
      · rw [a2 i (by omega) (by omega), d10 i (by omega) (by omega)]
    · show ρ 9 i = _
      rw [rk 9 (by omega) (by omega) (by omega)]; exact v6 i hi
    · show ρ 11 i = _
      rw [rk 11 (by omega) (by omega) (by omega)]; exact v7 i hi
    · show ρ 13 i = _
      rw [rk 13 (by omega) (by omega) (by omega)]; exact v8 i hi
    · rw [rk 23 (by omega) (by omega) (by omega)]; exact d6
    · rw [rk 30 (by omega) (by omega) (by omega)]; exact d7
    · rw [rk 30 (by omega) (by omega) (by omega)]; exact d8
  · rw [up_k _ _ _ _ _ (by omega), up_k _ _ _ _ _ (by omega), up_k _ _ _ _ _ (by omega)]
    exact funext fun i => a3 j i (by omega)
theorem slip_DR {σ τ υ : Mem} {k n a b i s w : Nat} (h : DR σ τ k n a b) (ha : a < 12) (hi : i < n) (hs : s < 2) (hw : w = 1 ∨ w = 2) (u2 : υ 2 = τ 2) (u04 : υ 0 4 = τ 0 4) (g0 : υ 4 (5 + 3 * a) = ι i) (g1 : υ 4 (5 + 3 * a + 1) = ι s) (g2 : υ 4 (5 + 3 * a + 2) = ι w) (gc : υ 4 0 = ι (a + 1)) (eF : ∀ j, j ≠ 0 → j ≠ 5 + 3 * a → j ≠ 5 + 3 * a + 1 → j ≠ 5 + 3 * a + 2 → υ 4 j = τ 4 j) : ∃ ρ, fX10_addSlip 3 (ι i) (ι s) (ι w) σ = some ρ ∧ DR ρ υ k n (a + 1) b ∧ ∀ j, ¬ (3 ≤ j ∧ j ≤ 32) → ρ j = σ j := by
  obtain ⟨d1, d2, d3, d4, d5, ⟨d6, d7, d8, d9⟩, d10⟩ := h
  have hn := d1.2.2.2
  obtain ⟨v0, v1, v2, v3, v4, v5, v6, v7, v8⟩ := d4
  have v0' := v0
  obtain ⟨l1, l2, l3, l4, l5⟩ := v0
  refine ⟨up (up (up (up σ 9 a (ι i)) 11 a (ι s)) 13 a (ι w)) 3 7 (ι (a + 1)), ?_, ?_, fun j hj => ?_⟩
  · unfold fX10_addSlip fX10_takesSlip
    rw [v3]
    simp (disch := omega) only [l_0, l_1, l_2, l_3, l_4, l_5, l_6, l_7, l_8, l_9, l_10, l_12, l_13, l_24, l_31, l_32, l_40, l_41, l_42, l_44, l_45, l_48, l_49, l_50, l_57, l_59, l_60, l_65, l_88, l_89, l_97, l_98, l_99, l_100, l_105, l_108, l_109, l_114, l_118, l_120, l_122, l_144, l_255, l_269, l_279, l_339, l_400, l_600, l_999, l_1000, l_2373, l_2712, ι_lt, ι_le, ι_eq, ι_add, ι_mul, ι_sub, ι_div, ι_n, ι_m1, m1_ι, m1_lt, m1_le, lt_m1, le_m1, m1_lt_m1, m1_le_m1, m1_add1, neg_ι1, ι_addm, ι_addn, Bool.false_eq_true, Nat.not_lt_zero, Nat.add_zero, Nat.zero_add, Nat.mul_zero, Nat.reduceMul, Nat.reduceAdd, Nat.reduceSub, Nat.reduceLT, Nat.reduceLeDiff, Nat.reduceEqDiff, Nat.reduceDiv, Nat.reduceBEq, Nat.reduceBNe, false_or, or_false, true_or, or_true, and_true, true_and, false_and, and_false, not_false_eq_true, not_true_eq_false, if_true, if_false, if_pos, if_neg, Option.bind_some, ite_false, ite_true, eq_self, reduceIte]
    rw [c_put (o := 3 + 5) l3 (by omega) ha, Option.bind_some]
    have x1 : up σ (3 + 5 + 1) a (ι i) 3 7 = ι a := by rw [up_k _ _ _ _ _ (by omega)]; exact v3
    rw [x1, c_put (o := 3 + 7) l4 (by omega) ha, Option.bind_some]
    have x2 : up (up σ (3 + 5 + 1) a (ι i)) (3 + 7 + 1) a (ι s) 3 7 = ι a := by rw [up_k _ _ _ _ _ (by omega)]; exact x1
    rw [x2, c_put (o := 3 + 9) l5 (by omega) ha, Option.bind_some]
    have x3 : up (up (up σ (3 + 5 + 1) a (ι i)) (3 + 7 + 1) a (ι s)) (3 + 9 + 1) a (ι w) 3 7 = ι a := by rw [up_k _ _ _ _ _ (by omega)]; exact x2
    rw [x3, ι_add]
  · have eM : ∀ j, j ≠ 3 → j ≠ 9 → j ≠ 11 → j ≠ 13 → (up (up (up (up σ 9 a (ι i)) 11 a (ι s)) 13 a (ι w)) 3 7 (ι (a + 1))) j = σ j := fun j h1 h2 h3 h4 => by
      simp (disch := omega) only [up_e, up_j, up_k, Nat.reduceAdd, Nat.add_zero]
    obtain ⟨f1, f2, f3, f4, f5, f6, f7, f8, f9, f10, f11, f12⟩ := d3
    unfold DR
    rw [u2, u04]
    refine ⟨d1, d2, ⟨gc, by omega, fun s' hs' => ?_, ?_, f5, fun s hs => RgI_e (by omega) (f6 s hs) (fun j h1 h2 => eF j (by omega) (by omega) (by omega) (by omega)), ?_, f8, fun c hc => by omega, ?_, f11, fun j hj => ?_⟩, ⟨v0', ?_, ?_, ?_, fun j hj => ?_, fun j hj => ?_, fun j hj => ?_, fun j hj => ?_, fun j hj => ?_⟩, LR_e f5 d5 (fun j hj => eM _ (by omega) (by omega) (by omega) (by omega)) (fun j h1 h2 => eF j (by omega) (by omega) (by omega) (by omega)), ⟨?_, ?_, ?_, ?_⟩, fun j h1 h2 => ?_⟩
    · by_cases h : s' = a
      · subst h
        unfold SlI
        rw [g0, g1, g2]
        exact ⟨Or.inr ⟨i, s, hi, hs, rfl, rfl⟩, by rcases hw with z | z <;> subst z; exact Or.inl rfl; exact Or.inr rfl⟩
      · have := f3 s' (by omega)
        unfold SlI at *
        rw [eF _ (by omega) (by omega) (by omega) (by omega), eF _ (by omega) (by omega) (by omega) (by omega), eF _ (by omega) (by omega) (by omega) (by omega)]
        exact this
    · rw [eF 1 (by omega) (by omega) (by omega) (by omega)]; exact f4
    · rw [eF 2 (by omega) (by omega) (by omega) (by omega)]; exact f7
    · rw [eF 4 (by omega) (by omega) (by omega) (by omega)]; exact f10
    · rw [eF _ (by omega) (by omega) (by omega) (by omega)]; exact f12 j hj
    · simp (disch := omega) only [up_e, up_j, up_k, Nat.reduceAdd, Nat.add_zero]; exact v1
    · simp (disch := omega) only [up_e, up_j, up_k, Nat.reduceAdd, Nat.add_zero]; exact v2
    · simp (disch := omega) only [up_e, up_j, up_k, Nat.reduceAdd, Nat.add_zero]
    · rw [eM _ (by omega) (by omega) (by omega) (by omega)]; exact v4 j hj
    · rw [eM _ (by omega) (by omega) (by omega) (by omega), eF _ (by omega) (by omega) (by omega) (by omega)]; exact v5 j hj
    · by_cases h : j = a
      · subst h; rw [g0]; simp (disch := omega) only [up_e, up_j, up_k, Nat.reduceAdd, Nat.add_zero]
      · rw [eF _ (by omega) (by omega) (by omega) (by omega), ← v6 j (by omega)]; simp (disch := omega) only [up_e, up_j, up_k, Nat.reduceAdd, Nat.add_zero]
    · by_cases h : j = a
      · subst h; rw [g1]; simp (disch := omega) only [up_e, up_j, up_k, Nat.reduceAdd, Nat.add_zero]
      · rw [eF _ (by omega) (by omega) (by omega) (by omega), ← v7 j (by omega)]; simp (disch := omega) only [up_e, up_j, up_k, Nat.reduceAdd, Nat.add_zero]
    · by_cases h : j = a
      · subst h; rw [g2]; simp (disch := omega) only [up_e, up_j, up_k, Nat.reduceAdd, Nat.add_zero]
      · rw [eF _ (by omega) (by omega) (by omega) (by omega), ← v8 j (by omega)]; simp (disch := omega) only [up_e, up_j, up_k, Nat.reduceAdd, Nat.add_zero]
    · rw [eM _ (by omega) (by omega) (by omega) (by omega)]; exact d6
    · rw [eM _ (by omega) (by omega) (by omega) (by omega)]; exact d7
    · rw [eM _ (by omega) (by omega) (by omega) (by omega)]; exact d8
    · rw [eF 3 (by omega) (by omega) (by omega) (by omega)]; exact d9
    · rw [eF _ (by omega) (by omega) (by omega) (by omega)]; exact d10 j h1 h2
  · simp (disch := omega) only [up_e, up_j, up_k, Nat.reduceAdd, Nat.add_zero]
theorem range_DR {σ τ υ : Mem} {k n a b i j s x : Nat} (h : DR σ τ k n a b) (hb : b < 12) (hi : i ≤ j) (hj : j < n) (hs : s < 4) (hx : 1 ≤ x) (hx' : x ≤ 999) (u2 : υ 2 = τ 2) (u04 : υ 0 4 = τ 0 4) (g0 : υ 4 (41 + 4 * b) = ι i) (g1 : υ 4 (41 + 4 * b + 1) = ι j) (g2 : υ 4 (41 + 4 * b + 2) = ι s) (g3 : υ 4 (41 + 4 * b + 3) = ι x) (gc : υ 4 1 = ι (b + 1)) (eF : ∀ l, l ≠ 1 → (l < 41 + 4 * b ∨ 41 + 4 * b + 3 < l) → υ 4 l = τ 4 l) : ∃ ρ, fX1_add 14 (ι i) (ι j) (ι s) (ι x) σ = some ρ ∧ DR ρ υ k n a (b + 1) ∧ ∀ j, ¬ (3 ≤ j ∧ j ≤ 32) → ρ j = σ j := by
  obtain ⟨d1, d2, d3, d4, d5, ⟨d6, d7, d8, d9⟩, d10⟩ := h
  have hn := d1.2.2.2
  obtain ⟨v0, v1, v2, v3, v4, v5⟩ := d5
  have v0' := v0
  obtain ⟨l1, l2, l3, l4⟩ := v0
  refine ⟨up (up (up (up (up σ 16 b (ι i)) 18 b (ι j)) 20 b (ι s)) 22 b (ι x)) 14 4 (ι (b + 1)), ?_, ?_, fun j hj => ?_⟩
  · unfold fX1_add fX1_takesRange
    rw [v1]
    simp (disch := omega) only [l_0, l_1, l_2, l_3, l_4, l_5, l_6, l_7, l_8, l_9, l_10, l_12, l_13, l_24, l_31, l_32, l_40, l_41, l_42, l_44, l_45, l_48, l_49, l_50, l_57, l_59, l_60, l_65, l_88, l_89, l_97, l_98, l_99, l_100, l_105, l_108, l_109, l_114, l_118, l_120, l_122, l_144, l_255, l_269, l_279, l_339, l_400, l_600, l_999, l_1000, l_2373, l_2712, ι_lt, ι_le, ι_eq, ι_add, ι_mul, ι_sub, ι_div, ι_n, ι_m1, m1_ι, m1_lt, m1_le, lt_m1, le_m1, m1_lt_m1, m1_le_m1, m1_add1, neg_ι1, ι_addm, ι_addn, Bool.false_eq_true, Nat.not_lt_zero, Nat.add_zero, Nat.zero_add, Nat.mul_zero, Nat.reduceMul, Nat.reduceAdd, Nat.reduceSub, Nat.reduceLT, Nat.reduceLeDiff, Nat.reduceEqDiff, Nat.reduceDiv, Nat.reduceBEq, Nat.reduceBNe, false_or, or_false, true_or, or_true, and_true, true_and, false_and, and_false, not_false_eq_true, not_true_eq_false, if_true, if_false, if_pos, if_neg, Option.bind_some, ite_false, ite_true, eq_self, reduceIte]
    rw [c_put (o := 14 + 1) l1 (by omega) hb, Option.bind_some]
    have x1 : up σ (14 + 1 + 1) b (ι i) 14 4 = ι b := by rw [up_k _ _ _ _ _ (by omega)]; exact v1
    rw [x1, c_put (o := 14 + 3) l2 (by omega) hb, Option.bind_some]
    have x2 : up (up σ (14 + 1 + 1) b (ι i)) (14 + 3 + 1) b (ι j) 14 4 = ι b := by rw [up_k _ _ _ _ _ (by omega)]; exact x1
    rw [x2, c_put (o := 14 + 5) l3 (by omega) hb, Option.bind_some]
    have x3 : up (up (up σ (14 + 1 + 1) b (ι i)) (14 + 3 + 1) b (ι j)) (14 + 5 + 1) b (ι s) 14 4 = ι b := by rw [up_k _ _ _ _ _ (by omega)]; exact x2
    rw [x3, c_put (o := 14 + 7) l4 (by omega) hb, Option.bind_some]
    have x4 : up (up (up (up σ (14 + 1 + 1) b (ι i)) (14 + 3 + 1) b (ι j)) (14 + 5 + 1) b (ι s)) (14 + 7 + 1) b (ι x) 14 4 = ι b := by rw [up_k _ _ _ _ _ (by omega)]; exact x3
    rw [x4, ι_add]
  · have eM : ∀ l, l ≠ 14 → l ≠ 16 → l ≠ 18 → l ≠ 20 → l ≠ 22 → (up (up (up (up (up σ 16 b (ι i)) 18 b (ι j)) 20 b (ι s)) 22 b (ι x)) 14 4 (ι (b + 1))) l = σ l := fun l h1 h2 h3 h4 h5 => by
      simp (disch := omega) only [up_e, up_j, up_k, Nat.reduceAdd, Nat.add_zero]
    obtain ⟨f1, f2, f3, f4, f5, f6, f7, f8, f9, f10, f11, f12⟩ := d3
    unfold DR
    rw [u2, u04]
    refine ⟨d1, d2, ⟨?_, f2, fun s hs => SlI_e (by omega) (f3 s hs) (fun j h1 h2 => eF j (by omega) (by omega)), gc, by omega, fun r hr => ?_, ?_, f8, fun c hc => by omega, ?_, f11, fun j hj => ?_⟩, VR_e hn f2 d4 (fun j hj => eM _ (by omega) (by omega) (by omega) (by omega) (by omega)) (fun j h1 h2 => eF j (by omega) (by omega)) (fun j h1 h2 => eF j (by omega) (by omega)), ⟨v0', ?_, fun l hl => ?_, fun l hl => ?_, fun l hl => ?_, fun l hl => ?_⟩, ⟨?_, ?_, ?_, ?_⟩, fun j h1 h2 => ?_⟩
    · rw [eF 0 (by omega) (by omega)]; exact f1
    · by_cases h : r = b
      · subst h
        exact ⟨i, j, s, x, hi, hj, hs, hx, hx', g0, g1, g2, g3⟩
      · have := f6 r (by omega)
        unfold RgI at *
        rw [eF _ (by omega) (by omega), eF _ (by omega) (by omega), eF _ (by omega) (by omega), eF _ (by omega) (by omega)]
        exact this
    · rw [eF 2 (by omega) (by omega)]; exact f7
    · rw [eF 4 (by omega) (by omega)]; exact f10
    · rw [eF _ (by omega) (by omega)]; exact f12 j hj
    · simp (disch := omega) only [up_e, up_j, up_k, Nat.reduceAdd, Nat.add_zero]
    · by_cases h : l = b
      · subst h; rw [g0]; simp (disch := omega) only [up_e, up_j, up_k, Nat.reduceAdd, Nat.add_zero]
      · rw [eF _ (by omega) (by omega), ← v2 l (by omega)]; simp (disch := omega) only [up_e, up_j, up_k, Nat.reduceAdd, Nat.add_zero]
    · by_cases h : l = b
      · subst h; rw [g1]; simp (disch := omega) only [up_e, up_j, up_k, Nat.reduceAdd, Nat.add_zero]
      · rw [eF _ (by omega) (by omega), ← v3 l (by omega)]; simp (disch := omega) only [up_e, up_j, up_k, Nat.reduceAdd, Nat.add_zero]
    · by_cases h : l = b
      · subst h; rw [g2]; simp (disch := omega) only [up_e, up_j, up_k, Nat.reduceAdd, Nat.add_zero]
      · rw [eF _ (by omega) (by omega), ← v4 l (by omega)]; simp (disch := omega) only [up_e, up_j, up_k, Nat.reduceAdd, Nat.add_zero]
    · by_cases h : l = b
      · subst h; rw [g3]; simp (disch := omega) only [up_e, up_j, up_k, Nat.reduceAdd, Nat.add_zero]
      · rw [eF _ (by omega) (by omega), ← v5 l (by omega)]; simp (disch := omega) only [up_e, up_j, up_k, Nat.reduceAdd, Nat.add_zero]
    · rw [eM _ (by omega) (by omega) (by omega) (by omega) (by omega)]; exact d6
    · rw [eM _ (by omega) (by omega) (by omega) (by omega) (by omega)]; exact d7
    · rw [eM _ (by omega) (by omega) (by omega) (by omega) (by omega)]; exact d8
    · rw [eF 3 (by omega) (by omega)]; exact d9
    · rw [eF _ (by omega) (by omega)]; exact d10 j h1 h2
  · simp (disch := omega) only [up_e, up_j, up_k, Nat.reduceAdd, Nat.add_zero]
theorem gone_DR {σ τ ρ υ : Mem} {k n a b x y : Nat} (h : DR σ τ k n a b) (hy : y < n) (u2 : υ 2 = τ 2) (u04 : υ 0 4 = τ 0 4) (g1 : ∀ j, x ≤ j → j ≤ y → υ 4 (279 + j) = ι 1) (g2 : ∀ j, ¬ (279 + x ≤ j ∧ j ≤ 279 + y) → υ 4 j = τ 4 j) (r1 : ∀ j, x ≤ j → j ≤ y → ρ 7 j = ι 1) (r2 : ∀ j, ¬ (x ≤ j ∧ j ≤ y) → ρ 7 j = σ 7 j) (r3 : ∀ j, 3 ≤ j → j ≤ 32 → j ≠ 7 → ρ j = σ j) : DR ρ υ k n a b := by
  obtain ⟨d1, d2, d3, d4, d5, ⟨d6, d7, d8, d9⟩, d10⟩ := h
  have hn := d1.2.2.2
  obtain ⟨v0, v1, v2, v3, v4, v5, v6, v7, v8⟩ := d4
  obtain ⟨f1, f2, f3, f4, f5, f6, f7, f8, f9, f10, f11, f12⟩ := d3
  unfold DR
  rw [u2, u04]
  refine ⟨d1, d2, ⟨?_, f2, fun s hs => SlI_e (by omega) (f3 s hs) (fun j h1 h2 => g2 j (by omega)), ?_, f5, fun s hs => RgI_e (by omega) (f6 s hs) (fun j h1 h2 => g2 j (by omega)), ?_, f8, fun c hc => by omega, ?_, f11, fun j hj => ?_⟩, ⟨v0, ?_, ?_, ?_, fun j hj => ?_, fun j hj => ?_, fun j hj => ?_, fun j hj => ?_, fun j hj => ?_⟩, LR_e f5 d5 (fun j hj => r3 _ (by omega) (by omega) (by omega)) (fun j h1 h2 => g2 j (by omega)), ⟨?_, ?_, ?_, ?_⟩, fun j h1 h2 => ?_⟩
  · rw [g2 0 (by omega)]; exact f1
  · rw [g2 1 (by omega)]; exact f4
  · rw [g2 2 (by omega)]; exact f7
  · rw [g2 4 (by omega)]; exact f10
  · by_cases e : x ≤ j ∧ j ≤ y
    · exact Or.inr (g1 j e.1 e.2)
    · rw [g2 _ (by omega)]; exact f12 j hj
  · rw [r3 3 (by omega) (by omega) (by omega)]; exact v1
  · rw [r3 3 (by omega) (by omega) (by omega)]; exact v2
  · rw [r3 3 (by omega) (by omega) (by omega)]; exact v3
  · rw [r3 (3 + 1 + 1) (by omega) (by omega) (by omega)]; exact v4 j hj
  · show ρ 7 j = _
    by_cases e : x ≤ j ∧ j ≤ y
    · rw [r1 j e.1 e.2, g1 j e.1 e.2]
    · rw [r2 j e, g2 _ (by omega)]; exact v5 j hj
  · rw [r3 (3 + 5 + 1) (by omega) (by omega) (by omega), g2 _ (by omega)]; exact v6 j hj
  · rw [r3 (3 + 7 + 1) (by omega) (by omega) (by omega), g2 _ (by omega)]; exact v7 j hj
  · rw [r3 (3 + 9 + 1) (by omega) (by omega) (by omega), g2 _ (by omega)]; exact v8 j hj
  · rw [r3 23 (by omega) (by omega) (by omega)]; exact d6
  · rw [r3 30 (by omega) (by omega) (by omega)]; exact d7
  · rw [r3 30 (by omega) (by omega) (by omega)]; exact d8
  · rw [g2 3 (by omega)]; exact d9
  · rw [g2 _ (by omega)]; exact d10 j h1 h2

/-! PURE PART: statements of the setup text -/
def frQ (σ ρ : Mem) : Prop := ∀ j, ¬ (1 ≤ j ∧ j ≤ 32) → ρ j = σ j
def frP (τ υ : Mem) : Prop := ∀ k j, ¬ (k = 2 ∨ k = 4 ∨ (k = 0 ∧ (j = 4 ∨ j = 13 ∨ j = 14 ∨ j = 15))) → υ k j = τ k j
theorem frP_M {τ υ : Mem} (h : frM τ υ) : frP τ υ := fun k j hk => h k j (by omega)
theorem frP_trans {τ υ ω : Mem} (h1 : frP τ υ) (h2 : frP υ ω) : frP τ ω := fun k j hk => (h2 k j hk).trans (h1 k j hk)
theorem frQ_trans {τ υ ω : Mem} (h1 : frQ τ υ) (h2 : frQ υ ω) : frQ τ ω := fun j hk => (h2 j hk).trans (h1 j hk)
theorem frQ_1 {σ ρ : Mem} (h : ∀ j, j ≠ 1 → ρ j = σ j) : frQ σ ρ := fun j hj => h j (by omega)
theorem frQ_3 {σ ρ : Mem} (h : ∀ j, ¬ (3 ≤ j ∧ j ≤ 32) → ρ j = σ j) : frQ σ ρ := fun j hj => h j (by omega)
theorem frP_BR {B : Nat → Nat} {m : Nat} {τ υ : Mem} (h : frP τ υ) (hB : BR B m τ) : BR B m υ := BR_c hB (h 0 12 (by omega)) (funext fun j => h 7 j (by omega))
theorem frQ_BC {B : Nat → Nat} {m : Nat} {σ ρ : Mem} (h : frQ σ ρ) (hB : BC B m σ) : BC B m ρ := BC_c hB (h 33 (by omega)) (h 34 (by omega))
theorem DR_1 {σ τ ρ υ : Mem} {k n a b : Nat} (h : DR σ τ k n a b) (hσ : ∀ j, j ≠ 1 → ρ j = σ j) (hτ : frM τ υ) : DR ρ υ k n a b := DR_c h (fun j h1 h2 => hσ j (by omega)) (funext fun j => hτ 2 j (by omega)) (funext fun j => hτ 4 j (by omega)) (hτ 0 4 (by omega))
def Out (B : Nat → Nat) (m : Nat) (σ τ : Mem) (s : Nat) (c : Option (Int32 × Mem)) (r : Option Mem) : Prop := ∃ x ρ υ, c = some (x, ρ) ∧ r = some υ ∧ frQ σ ρ ∧ frP τ υ ∧
  ((x = 1 ∧ ∃ k n a b s' p', 1 ≤ k ∧ DR ρ υ k n a b ∧ CT B m ρ s' ∧ RP B m υ p' ∧ Skp B m p' = s' ∧ s ≤ s') ∨ (x = 0 ∧ ∃ s', s' ≤ 600 ∧ ρ 1 3 = ι s' ∧ υ 0 15 = ι s'))
theorem out_no {B : Nat → Nat} {m : Nat} {σ τ ρ υ : Mem} {s s' : Nat} (h1 : frQ σ ρ) (h2 : frP τ υ) (h3 : s' ≤ 600) (h4 : ρ 1 3 = ι s') (h5 : υ 0 15 = ι s') : Out B m σ τ s (some (0, ρ)) (some υ) := ⟨0, ρ, υ, rfl, rfl, h1, h2, Or.inr ⟨rfl, s', h3, h4, h5⟩⟩
theorem out_yes {B : Nat → Nat} {m : Nat} {σ τ ρ υ : Mem} {s s' p' k n a b : Nat} (h1 : frQ σ ρ) (h2 : frP τ υ) (h3 : 1 ≤ k) (h4 : DR ρ υ k n a b) (h5 : CT B m ρ s') (h6 : RP B m υ p') (h7 : Skp B m p' = s') (h8 : s ≤ s') : Out B m σ τ s (some (1, ρ)) (some υ) := ⟨1, ρ, υ, rfl, rfl, h1, h2, Or.inl ⟨rfl, k, n, a, b, s', p', h3, h4, h5, h6, h7, h8⟩⟩
def BD (B : Nat → Nat) (m : Nat) (τ : Mem) (e : Nat) : Prop := BR B m τ ∧ e ≤ 600 ∧ τ 0 15 = ι e ∧ ∃ p, p ≤ m ∧ τ 0 13 = ι p
theorem BD_c {B : Nat → Nat} {m e : Nat} {τ υ : Mem} (h : BD B m τ e) (h7 : υ 7 = τ 7) (h12 : υ 0 12 = τ 0 12) (h13 : υ 0 13 = τ 0 13) (h15 : υ 0 15 = τ 0 15) : BD B m υ e := by
  obtain ⟨b1, b2, b3, p, b4, b5⟩ := h
  exact ⟨BR_c b1 h12 h7, b2, h15.trans b3, p, b4, h13.trans b5⟩
theorem bad_takes {B : Nat → Nat} {m e w : Nat} {τ : Mem} (h : BD B m τ e) : fX12_takes w τ = some (0, τ) := by
  unfold fX12_takes; rw [r_notf h.2.2.1 h.2.1, Option.bind_some, if_pos (show ι 0 = (0 : Int32) from rfl)]
theorem bad_number {B : Nat → Nat} {m e : Nat} {τ : Mem} (h : BD B m τ e) (x z : Int32) : fX12_number x z τ = some (x, τ) := by
  unfold fX12_number; rw [r_notf h.2.2.1 h.2.1, Option.bind_some, if_pos (show ι 0 = (0 : Int32) from rfl)]
theorem bad_look {B : Nat → Nat} {m e : Nat} {τ : Mem} (h : BD B m τ e) : ∃ v υ, fX12_look τ = some (v, υ) ∧ BD B m υ e ∧ frL τ υ := by
  obtain ⟨b1, b2, b3, p, b4, b5⟩ := h
  obtain ⟨υ, a1, a2, a3, a4⟩ := r_look b1 b4 b5
  exact ⟨_, υ, a1, ⟨frM_BR (frL_M a4) b1, b2, (a4 0 15 (by omega)).trans b3, _, (Skp_spec b4).2.1, a2⟩, a4⟩
theorem r_leafRead {B : Nat → Nat} {m p s x k n : Nat} {τ : Mem} (h : RP B m τ p) (hs : Skp B m p = s) (hx : x < 100) (hQ : QP (τ 2) k n) (h4 : τ 0 4 = ι k) (hn : 1 ≤ n) :
    (∀ v, nv B m s = some v → x ≤ v → v < n → ∃ υ, fX12_leafRead (ι x) τ = some (ι v, υ) ∧ RP B m υ (Tk B m s) ∧ υ 0 14 = ι s ∧ frL τ υ) ∧
    ((∀ v, nv B m s = some v → ¬ (x ≤ v ∧ v < n)) → ∃ υ, fX12_leafRead (ι x) τ = some (ι x, υ) ∧ BD B m υ s ∧ frM τ υ) := by
  have hn60 := hQ.2.2.2
  have hm := h.1.1
  have s2 := (Skp_spec (B := B) h.2.1).2.1
  rw [hs] at s2
  obtain ⟨g1, g2⟩ := r_num (z := ι (n - 1)) h hs (show x < 2147483648 by omega)
  unfold fX12_leafRead
  rw [r_leavesRead hQ h4, Option.bind_some, l_1, ι_sub hn]
  refine ⟨fun v hv h1 h2 => ?_, fun hno => ?_⟩
  · have hlt := nv_lt s2 hv
    obtain ⟨υ, a1, a2, a3, a4⟩ := g1 v hv (by rw [ι_le (by omega) (by omega)]; exact h1) (by rw [ι_le (by omega) (by omega)]; omega)
    exact ⟨υ, by rw [a1, Option.bind_some], a2, a3, a4⟩
  · obtain ⟨υ, p', a1, a2, a3, a4, a5⟩ := g2 (fun v hv z => by
      have hlt := nv_lt s2 hv
      rw [ι_le (by omega) (by omega), ι_le (by omega) (by omega)] at z
      exact hno v hv (by omega))
    exact ⟨υ, by rw [a1, Option.bind_some], ⟨frM_BR a5 h.1, by omega, a2, p', a3, a4⟩, a5⟩
theorem quire_sim {B : Nat → Nat} {m s k n a b : Nat} {σ τ : Mem} (hB : BC B m σ) (hT : CT B m σ s) (hD : DR σ τ k n a b) (hP : RP B m τ (Tk B m s)) : Out B m σ τ s (fX6_readQuire 1 σ) (fX12_readsQuire (ι s) τ) := by
  have hm := hB.1
  have hs := hT.1
  obtain ⟨t1, t2, t3, t4⟩ := Tk_spec (B := B) hs
  obtain ⟨u1, u2, u3, u4⟩ := Skp_spec (B := B) t2
  have hQ := hD.1
  have hk := hQ.1
  have hn := hQ.2.2.2
  have h04 := hD.2.1
  have hV := hD.2.2.2.1
  unfold fX6_readQuire fX12_readsQuire
  rw [show (1 + 1) + 1 = 3 from rfl, c_tq hV.2.1 hk, Option.bind_some, h04]
  by_cases hk8 : k = 8
  · rw [if_neg (show ¬ k < 8 by omega), if_pos (show ι 0 = (0 : Int32) from rfl), if_pos (by rw [hk8]; rfl), r_wrong hP.2.2.2, Option.bind_some]
    exact out_no (fun _ _ => rfl) (fun k j hk => by rw [up_g, if_neg (by omega)]) (by omega) hT.2.2.1 (up_e _ _ _ _)
  · rw [if_pos (show k < 8 by omega), if_neg (by decide), if_neg (by rw [l_8, ι_eq (by omega) (by omega)]; exact hk8), r_leavesRead hQ h04, Option.bind_some]
    obtain ⟨ρ1, a1, a2, a3, a4⟩ := c_nextT hB hT
    have z : (if (60 : Int32) - ι n < (12 : Int32) then (60 : Int32) - ι n else (12 : Int32)) = ι (if 60 - n < 12 then 60 - n else 12) := by
      rw [l_60, l_12, ι_sub hn, ite_lt (by omega) (by omega)]
      by_cases c : 60 - n < 12
      · rw [if_pos c, if_pos c]
      · rw [if_neg c, if_neg c]
    have hz : (if 60 - n < 12 then 60 - n else 12) ≤ 12 ∧ (∀ v, v ≤ (if 60 - n < 12 then 60 - n else 12) ↔ (v ≤ 12 ∧ n + v ≤ 60)) := by
      by_cases c : 60 - n < 12
      · rw [if_pos c]; exact ⟨by omega, fun v => by omega⟩
      · rw [if_neg c]; exact ⟨by omega, fun v => by omega⟩
    rw [z, a1, Option.bind_some, a2.2.2.2.2]
    generalize (if 60 - n < 12 then 60 - n else 12) = zz at *
    obtain ⟨g1, g2⟩ := r_num (z := ι zz) (x := 2) hP rfl (by omega)
    have f2 : frQ σ ρ1 := frQ_1 a4
    have V1 : σ 3 = ρ1 3 := (a4 3 (by omega)).symm
    have w6 : ρ1 3 6 = ι n := by rw [← V1]; exact hV.2.2.1
    generalize hs1 : Skp B m (Tk B m s) = s1 at *
    have bad : (∀ v, nv B m s1 = some v → ¬ (ι 2 ≤ ι v ∧ ι v ≤ ι zz)) → fX10_takesLeaves 3 (oi (nv B m s1)) ρ1 = some (ι 0) := fun hno => by
      cases hv : nv B m s1 with
      | none => exact c_tl_neg
      | some v =>
        have hlt := nv_lt u2 hv
        have := hno v hv
        rw [ι_le (by omega) (by omega), ι_le (by omega) (by omega)] at this
        have h3 := (hz.2 v).mpr
        exact c_tl_no w6 hn hlt (fun t => this ⟨t.1, h3 ⟨t.2.1, t.2.2.2⟩⟩)
    by_cases hok : ∃ v, nv B m s1 = some v ∧ ι 2 ≤ ι v ∧ ι v ≤ ι zz
    · obtain ⟨v, hv, q1, q2⟩ := hok
      have hlt := nv_lt u2 hv
      have q1' := q1
      have q2' := q2
      rw [ι_le (by omega) (by omega)] at q1' q2'
      have hzz := (hz.2 v).mp q2'
      obtain ⟨υ, b1, b2, b3, b4⟩ := g1 v hv q1 q2
      have b1 : fX12_number (2 : Int32) (ι zz) τ = some (ι v, υ) := b1
      have e04 : υ 0 4 = ι k := (b4 0 4 (by omega)).trans h04
      have hfn : ¬ (ι k < (0 : Int32) ∨ lm 2 ≤ (ι k).toNatClampNeg) := by simp (disch := omega) only [l_0, l_1, l_2, l_3, l_4, l_5, l_6, l_7, l_8, l_9, l_10, l_12, l_13, l_24, l_31, l_32, l_40, l_41, l_42, l_44, l_45, l_48, l_49, l_50, l_57, l_59, l_60, l_65, l_88, l_89, l_97, l_98, l_99, l_100, l_105, l_108, l_109, l_114, l_118, l_120, l_122, l_144, l_255, l_269, l_279, l_339, l_400, l_600, l_999, l_1000, l_2373, l_2712, ι_lt, ι_le, ι_eq, ι_add, ι_mul, ι_sub, ι_div, ι_n, ι_m1, m1_ι, m1_lt, m1_le, lt_m1, le_m1, m1_lt_m1, m1_le_m1, m1_add1, neg_ι1, ι_addm, ι_addn, Bool.false_eq_true, Nat.not_lt_zero, Nat.add_zero, Nat.zero_add, Nat.mul_zero, Nat.reduceMul, Nat.reduceAdd, Nat.reduceSub, Nat.reduceLT, Nat.reduceLeDiff, Nat.reduceEqDiff, Nat.reduceDiv, Nat.reduceBEq, Nat.reduceBNe, false_or, or_false, true_or, or_true, and_true, true_and, false_and, and_false, not_false_eq_true, not_true_eq_false, if_true, if_false, if_pos, if_neg, Option.bind_some, ite_false, ite_true, eq_self, reduceIte, lm_0, lm_1, lm_2, lm_3, lm_4, lm_5, lm_6, lm_7, lm_8, lm_9, lm_10, lm_11, lm_12, lm_13, lm_14, lm_15, lm_16, lm_17]; omega
      rw [b1, Option.bind_some, hv]
      show Out B m σ τ s _ ((fX12_isFine υ).bind _)
      rw [r_fine b2.2.2.2, Option.bind_some, if_neg (by decide)]
      show Out B m σ τ s ((fX10_takesLeaves 3 (ι v) ρ1).bind _) (if ι v - ι v / (2 : Int32) * (2 : Int32) = (1 : Int32) then (fX12_wrongAt (υ 0 14) υ).bind _ else if υ 0 4 < 0 ∨ lm 2 ≤ (υ 0 4).toNatClampNeg then none else some _)
      have hpar : ι v - ι v / (2 : Int32) * (2 : Int32) = ι (v % 2) := by
        simp (disch := omega) only [l_0, l_1, l_2, l_3, l_4, l_5, l_6, l_7, l_8, l_9, l_10, l_12, l_13, l_24, l_31, l_32, l_40, l_41, l_42, l_44, l_45, l_48, l_49, l_50, l_57, l_59, l_60, l_65, l_88, l_89, l_97, l_98, l_99, l_100, l_105, l_108, l_109, l_114, l_118, l_120, l_122, l_144, l_255, l_269, l_279, l_339, l_400, l_600, l_999, l_1000, l_2373, l_2712, ι_lt, ι_le, ι_eq, ι_add, ι_mul, ι_sub, ι_div, ι_n, ι_m1, m1_ι, m1_lt, m1_le, lt_m1, le_m1, m1_lt_m1, m1_le_m1, m1_add1, neg_ι1, ι_addm, ι_addn, Bool.false_eq_true, Nat.not_lt_zero, Nat.add_zero, Nat.zero_add, Nat.mul_zero, Nat.reduceMul, Nat.reduceAdd, Nat.reduceSub, Nat.reduceLT, Nat.reduceLeDiff, Nat.reduceEqDiff, Nat.reduceDiv, Nat.reduceBEq, Nat.reduceBNe, false_or, or_false, true_or, or_true, and_true, true_and, false_and, and_false, not_false_eq_true, not_true_eq_false, if_true, if_false, if_pos, if_neg, Option.bind_some, ite_false, ite_true, eq_self, reduceIte]
        congr 1; omega
      rw [hpar, l_1, ite_eq (by omega) (by omega)]
      by_cases hodd : v % 2 = 1
      · rw [c_tl_no w6 hn hlt (fun t => by have := t.2.2.1; omega), Option.bind_some, if_pos (show ι 0 = (0 : Int32) from rfl), if_pos hodd, r_wrong b2.2.2.2, Option.bind_some]
        have e4 : up υ 0 15 (υ 0 14) 0 4 = ι k := by rw [up_j _ _ _ _ _ (by omega)]; exact e04
        rw [e4, if_neg hfn]
        refine out_no (s' := s1) f2 (fun k' j hk' => ?_) (by omega) a2.2.2.1 ?_
        · rw [up_g, if_neg (by omega), up_g, if_neg (by omega), up_g, if_neg (by omega)]
          exact b4 k' j (by omega)
        · rw [up_j _ _ _ _ _ (by omega), up_k _ _ _ _ _ (by omega), up_e]; exact b3
      · rw [if_neg hodd, e04, if_neg hfn]
        show Out B m σ τ s _ (some (up (up υ 2 (υ 0 4).toNatClampNeg (ι v)) 0 4 (up υ 2 (υ 0 4).toNatClampNeg (ι v) 0 4 + ι 1)))
        rw [e04, ι_n (by omega)]
        have htl : tlB n v := ⟨q1', hzz.1, by omega, hzz.2⟩
        have x4 : up υ 2 k (ι v) 0 4 = ι k := by rw [up_k _ _ _ _ _ (by omega)]; exact e04
        rw [c_tl w6 hn hlt htl, Option.bind_some, if_neg (by decide), x4, ι_add]
        have hD1 : DR ρ1 υ k n a b := DR_1 hD a4 (frL_M b4)
        obtain ⟨ρ2, c1, c2, c3⟩ := quire_DR (υ := up (up υ 2 k (ι v)) 0 4 (ι (k + 1))) hD1 (by omega) htl (by rw [up_k _ _ _ _ _ (by omega), up_e]) (fun i hi => by rw [up_k _ _ _ _ _ (by omega), up_j _ _ _ _ _ hi]) (by rw [up_k _ _ _ _ _ (by omega), up_k _ _ _ _ _ (by omega)]) (up_e _ _ _ _)
        have hB2 := frQ_BC (frQ_3 c3) a3
        have hT2 := CT_c a2 (c3 1 (by omega))
        obtain ⟨ρ3, d1, d2, d3, d4⟩ := c_nextT hB2 hT2
        have c1 : fX10_addQuire 3 (oi (some v)) ρ1 = some ρ2 := c1
        rw [c1, Option.bind_some, d1, Option.bind_some]
        obtain ⟨tt1, tt2, tt3, tt4⟩ := Tk_spec (B := B) u2
        refine out_yes (s' := Skp B m (Tk B m s1)) (p' := Tk B m s1) (frQ_trans f2 (frQ_trans (frQ_3 c3) (frQ_1 d4))) (fun k' j hk' => ?_) (show 1 ≤ k + 1 by omega) (DR_c c2 (fun j h1 h2 => d4 j (by omega)) rfl rfl rfl) d2 ⟨?_, tt2, ?_, ?_⟩ rfl ?_
        · rw [up_g, if_neg (by omega), up_g, if_neg (by omega)]; exact b4 k' j (by omega)
        · exact BR_c b2.1 (by rw [up_j _ _ _ _ _ (by omega), up_k _ _ _ _ _ (by omega)]) (by rw [up_k _ _ _ _ _ (by omega), up_k _ _ _ _ _ (by omega)])
        · rw [up_j _ _ _ _ _ (by omega), up_k _ _ _ _ _ (by omega)]; exact b2.2.2.1
        · rw [up_j _ _ _ _ _ (by omega), up_k _ _ _ _ _ (by omega)]; exact b2.2.2.2
        · have := (Skp_spec (B := B) tt2).1; omega
    · have hno : ∀ v, nv B m s1 = some v → ¬ (ι 2 ≤ ι v ∧ ι v ≤ ι zz) := fun v hv z => hok ⟨v, hv, z.1, z.2⟩
      obtain ⟨υ, p', b1, b2, b3, b4, b5⟩ := g2 hno
      have b1 : fX12_number (2 : Int32) (ι zz) τ = some (ι 2, υ) := b1
      have e04 : υ 0 4 = ι k := (b5 0 4 (by omega)).trans h04
      have hfn : ¬ (ι k < (0 : Int32) ∨ lm 2 ≤ (ι k).toNatClampNeg) := by simp (disch := omega) only [l_0, l_1, l_2, l_3, l_4, l_5, l_6, l_7, l_8, l_9, l_10, l_12, l_13, l_24, l_31, l_32, l_40, l_41, l_42, l_44, l_45, l_48, l_49, l_50, l_57, l_59, l_60, l_65, l_88, l_89, l_97, l_98, l_99, l_100, l_105, l_108, l_109, l_114, l_118, l_120, l_122, l_144, l_255, l_269, l_279, l_339, l_400, l_600, l_999, l_1000, l_2373, l_2712, ι_lt, ι_le, ι_eq, ι_add, ι_mul, ι_sub, ι_div, ι_n, ι_m1, m1_ι, m1_lt, m1_le, lt_m1, le_m1, m1_lt_m1, m1_le_m1, m1_add1, neg_ι1, ι_addm, ι_addn, Bool.false_eq_true, Nat.not_lt_zero, Nat.add_zero, Nat.zero_add, Nat.mul_zero, Nat.reduceMul, Nat.reduceAdd, Nat.reduceSub, Nat.reduceLT, Nat.reduceLeDiff, Nat.reduceEqDiff, Nat.reduceDiv, Nat.reduceBEq, Nat.reduceBNe, false_or, or_false, true_or, or_true, and_true, true_and, false_and, and_false, not_false_eq_true, not_true_eq_false, if_true, if_false, if_pos, if_neg, Option.bind_some, ite_false, ite_true, eq_self, reduceIte, lm_0, lm_1, lm_2, lm_3, lm_4, lm_5, lm_6, lm_7, lm_8, lm_9, lm_10, lm_11, lm_12, lm_13, lm_14, lm_15, lm_16, lm_17]; omega
      rw [bad hno, b1, Option.bind_some, Option.bind_some]
      show Out B m σ τ s _ ((fX12_isFine υ).bind _)
      rw [r_notf b2 (by omega), Option.bind_some, if_pos (show ι 0 = (0 : Int32) from rfl), if_pos (show ι 0 = (0 : Int32) from rfl)]
      show Out B m σ τ s _ (if υ 0 4 < 0 ∨ lm 2 ≤ (υ 0 4).toNatClampNeg then none else some _)
      rw [e04, if_neg hfn]
      refine out_no (s' := s1) f2 (fun k' j hk' => ?_) (by omega) a2.2.2.1 ?_
      · rw [up_g, if_neg (by omega), up_g, if_neg (by omega)]
        exact b5 k' j (by omega)
      · rw [up_j _ _ _ _ _ (by omega), up_k _ _ _ _ _ (by omega)]; exact b2
theorem bad_j93 {B : Nat → Nat} {m e a : Nat} {τ : Mem} (h : BD B m τ e) (h0 : τ 4 0 = ι a) (ha : a < 12) (x y : Int32) : ∃ υ, fX12_readsSlip_j93 x y τ = some υ ∧ υ 0 15 = ι e ∧ frP τ υ := by
  unfold fX12_readsSlip_j93
  simp (disch := omega) only [l_0, l_1, l_2, l_3, l_4, l_5, l_6, l_7, l_8, l_9, l_10, l_12, l_13, l_24, l_31, l_32, l_40, l_41, l_42, l_44, l_45, l_48, l_49, l_50, l_57, l_59, l_60, l_65, l_88, l_89, l_97, l_98, l_99, l_100, l_105, l_108, l_109, l_114, l_118, l_120, l_122, l_144, l_255, l_269, l_279, l_339, l_400, l_600, l_999, l_1000, l_2373, l_2712, ι_lt, ι_le, ι_eq, ι_add, ι_mul, ι_sub, ι_div, ι_n, ι_m1, m1_ι, m1_lt, m1_le, lt_m1, le_m1, m1_lt_m1, m1_le_m1, m1_add1, neg_ι1, ι_addm, ι_addn, Bool.false_eq_true, Nat.not_lt_zero, Nat.add_zero, Nat.zero_add, Nat.mul_zero, Nat.reduceMul, Nat.reduceAdd, Nat.reduceSub, Nat.reduceLT, Nat.reduceLeDiff, Nat.reduceEqDiff, Nat.reduceDiv, Nat.reduceBEq, Nat.reduceBNe, false_or, or_false, true_or, or_true, and_true, true_and, false_and, and_false, not_false_eq_true, not_true_eq_false, if_true, if_false, if_pos, if_neg, Option.bind_some, ite_false, ite_true, eq_self, reduceIte, lm_0, lm_1, lm_2, lm_3, lm_4, lm_5, lm_6, lm_7, lm_8, lm_9, lm_10, lm_11, lm_12, lm_13, lm_14, lm_15, lm_16, lm_17, h0]
  have hB2 : BD B m (up (up τ 4 (5 + 3 * a) x) 4 (5 + 3 * a + 1) y) e := BD_c h (by rw [up_k _ _ _ _ _ (by omega), up_k _ _ _ _ _ (by omega)]) (by rw [up_k _ _ _ _ _ (by omega), up_k _ _ _ _ _ (by omega)]) (by rw [up_k _ _ _ _ _ (by omega), up_k _ _ _ _ _ (by omega)]) (by rw [up_k _ _ _ _ _ (by omega), up_k _ _ _ _ _ (by omega)])
  rw [bad_number hB2, Option.bind_some]
  refine ⟨_, rfl, ?_, fun k j hk => ?_⟩
  · rw [up_k _ _ _ _ _ (by omega), up_k _ _ _ _ _ (by omega)]; exact hB2.2.2.1
  · rw [up_g, if_neg (by omega), up_g, if_neg (by omega)]
    show up (up τ 4 (5 + 3 * a) x) 4 (5 + 3 * a + 1) y k j = _
    rw [up_g, if_neg (by omega), up_g, if_neg (by omega)]
theorem bad_j79 {B : Nat → Nat} {m e a : Nat} {τ : Mem} (h : BD B m τ e) (h0 : τ 4 0 = ι a) (ha : a < 12) (x y : Int32) : ∃ υ, fX12_readsSlip_j79 x y τ = some υ ∧ υ 0 15 = ι e ∧ frP τ υ := by
  unfold fX12_readsSlip_j79 fX12_tokenNow
  by_cases c : y = (-1 : Int32)
  · rw [if_pos c]
    obtain ⟨v, υ, a1, a2, a3⟩ := bad_look h
    rw [a1, Option.bind_some, Option.bind_some, r_wrong_no a2.2.2.1 a2.2.1, Option.bind_some]
    obtain ⟨ω, b1, b2, b3⟩ := bad_j93 a2 ((a3 4 0 (by omega)).trans h0) ha x y
    exact ⟨ω, b1, b2, frP_trans (frP_M (frL_M a3)) b3⟩
  · rw [if_neg c]
    exact bad_j93 h h0 ha x y
theorem bad_j52 {B : Nat → Nat} {m e a : Nat} {τ : Mem} (h : BD B m τ e) (h0 : τ 4 0 = ι a) (ha : a < 12) (x : Int32) : ∃ υ, fX12_readsSlip_j52 x τ = some υ ∧ υ 0 15 = ι e ∧ frP τ υ := by
  unfold fX12_readsSlip_j52
  rw [bad_takes h, Option.bind_some, if_pos rfl, bad_takes h, Option.bind_some, if_pos rfl]
  exact bad_j79 h h0 ha x _
theorem isW_10 (B : Nat → Nat) (m s : Nat) : isW B m 10 s = isW B m 0 s := rfl
theorem isW_11 (B : Nat → Nat) (m s : Nat) : isW B m 11 s = isW B m 1 s := rfl
theorem isW_12 (B : Nat → Nat) (m s : Nat) : isW B m 12 s = isW B m 2 s := rfl
theorem isW_13 (B : Nat → Nat) (m s : Nat) : isW B m 13 s = isW B m 3 s := rfl
theorem isW_14 (B : Nat → Nat) (m s : Nat) : isW B m 14 s = isW B m 4 s := rfl
theorem isW_15 (B : Nat → Nat) (m s : Nat) : isW B m 15 s = isW B m 5 s := rfl
theorem isW_16 (B : Nat → Nat) (m s : Nat) : isW B m 16 s = isW B m 6 s := rfl
theorem isW_17 (B : Nat → Nat) (m s : Nat) : isW B m 17 s = isW B m 7 s := rfl
theorem isW_18 (B : Nat → Nat) (m s : Nat) : isW B m 18 s = isW B m 8 s := rfl
theorem isW_19 (B : Nat → Nat) (m s : Nat) : isW B m 19 s = isW B m 9 s := rfl
theorem wl_ok : ∀ w, w < 20 → 1 ≤ wln w ∧ wln w ≤ 7 := by decide +kernel

/-! PURE PART: statements of the setup text, slips and labels -/
def sd (B : Nat → Nat) (m s : Nat) : Option Nat := if isW B m 3 s then some 0 else if isW B m 4 s then some 1 else none
theorem sd_lt {B : Nat → Nat} {m s i : Nat} (h : sd B m s = some i) : i < 2 := by
  unfold sd at h
  by_cases c : isW B m 3 s = true
  · rw [if_pos c] at h; cases h; omega
  · rw [if_neg c] at h
    by_cases c : isW B m 4 s = true
    · rw [if_pos c] at h; cases h; omega
    · rw [if_neg c] at h; cases h
theorem c_side {B : Nat → Nat} {m s : Nat} {σ : Mem} (hB : BC B m σ) (hT : CT B m σ s) : fX6_sideNamed 1 σ = some (oi (sd B m s)) := by
  unfold fX6_sideNamed sd
  rw [c_isWord hB hT (wl_ok 3 (by omega)).2, Option.bind_some, c_isWord hB hT (wl_ok 4 (by omega)).2, Option.bind_some]
  by_cases c : isW B m 3 s = true
  · rw [if_pos c, if_pos c, if_neg (by decide)]; rfl
  · rw [if_neg c, if_neg c, if_pos (show ι 0 = (0 : Int32) from rfl)]
    by_cases c : isW B m 4 s = true
    · rw [if_pos c, if_pos c, if_neg (by decide)]; rfl
    · rw [if_neg c, if_neg c, if_pos (show ι 0 = (0 : Int32) from rfl)]; rfl
theorem r_j52 {B : Nat → Nat} {m p s : Nat} {τ : Mem} (h : RP B m τ p) (hs : Skp B m p = s) (x : Int32) : ∃ υ, fX12_readsSlip_j52 x τ = fX12_readsSlip_j79 x (oi (sd B m s)) υ ∧ RP B m υ (if (sd B m s).isSome then Tk B m s else s) ∧ frL τ υ := by
  have hss : Skp B m s = s := by rw [← hs]; exact Skp_idem h.2.1
  unfold fX12_readsSlip_j52 sd
  obtain ⟨υ1, a1, a2, a3, a4⟩ := r_takes (w := 13) h hs (wl_ok 13 (by omega)).1 (wl_ok 13 (by omega)).2
  rw [isW_13] at a1 a2
  rw [a1, Option.bind_some]
  by_cases c : isW B m 3 s = true
  · rw [if_pos c] at a2 ⊢
    rw [if_pos c, if_neg (show ¬ ((ι 1, υ1) : Int32 × Mem).1 = 0 from (by decide : ¬ ι 1 = (0 : Int32)))]
    exact ⟨υ1, rfl, a2, a4⟩
  · rw [if_neg c] at a2 ⊢
    rw [if_neg c, if_pos (show ι 0 = (0 : Int32) from rfl)]
    obtain ⟨υ2, b1, b2, b3, b4⟩ := r_takes (w := 14) a2 hss (wl_ok 14 (by omega)).1 (wl_ok 14 (by omega)).2
    rw [isW_14] at b1 b2
    have fr : frL τ υ2 := fun k j hk => (b4 k j hk).trans (a4 k j hk)
    show ∃ υ, ((fX12_takes 14 υ1).bind _) = _ ∧ _
    rw [b1, Option.bind_some]
    by_cases c : isW B m 4 s = true
    · rw [if_pos c] at b2 ⊢
      rw [if_pos c, if_neg (show ¬ ((ι 1, υ2) : Int32 × Mem).1 = 0 from (by decide : ¬ ι 1 = (0 : Int32)))]
      exact ⟨υ2, rfl, b2, fr⟩
    · rw [if_neg c] at b2 ⊢
      rw [if_neg c, if_pos (show ι 0 = (0 : Int32) from rfl)]
      exact ⟨υ2, rfl, b2, fr⟩
theorem r_j93 {B : Nat → Nat} {m p s a : Nat} {τ : Mem} (h : RP B m τ p) (hs : Skp B m p = s) (h0 : τ 4 0 = ι a) (ha : a < 12) (x y : Int32) :
    (∀ v, nv B m s = some v → 1 ≤ v → v ≤ 2 → ∃ υ, fX12_readsSlip_j93 x y τ = some υ ∧ RP B m υ (Tk B m s) ∧ υ 4 (5 + 3 * a) = x ∧ υ 4 (5 + 3 * a + 1) = y ∧ υ 4 (5 + 3 * a + 2) = ι v ∧ υ 4 0 = ι (a + 1) ∧ (∀ j, j ≠ 0 → j ≠ 5 + 3 * a → j ≠ 5 + 3 * a + 1 → j ≠ 5 + 3 * a + 2 → υ 4 j = τ 4 j) ∧ υ 2 = τ 2 ∧ υ 0 4 = τ 0 4 ∧ frP τ υ) ∧
    ((∀ v, nv B m s = some v → ¬ (1 ≤ v ∧ v ≤ 2)) → ∃ υ, fX12_readsSlip_j93 x y τ = some υ ∧ υ 0 15 = ι s ∧ frP τ υ) := by
  have s2 := (Skp_spec (B := B) h.2.1).2.1
  rw [hs] at s2
  have hm := h.1.1
  have hP2 : RP B m (up (up τ 4 (5 + 3 * a) x) 4 (5 + 3 * a + 1) y) p := ⟨BR_c h.1 (by rw [up_k _ _ _ _ _ (by omega), up_k _ _ _ _ _ (by omega)]) (by rw [up_k _ _ _ _ _ (by omega), up_k _ _ _ _ _ (by omega)]), h.2.1, by rw [up_k _ _ _ _ _ (by omega), up_k _ _ _ _ _ (by omega)]; exact h.2.2.1, by rw [up_k _ _ _ _ _ (by omega), up_k _ _ _ _ _ (by omega)]; exact h.2.2.2⟩
  obtain ⟨g1, g2⟩ := r_num (z := ι 2) (x := 1) hP2 hs (by omega)
  unfold fX12_readsSlip_j93
  simp (disch := omega) only [l_0, l_1, l_2, l_3, l_4, l_5, l_6, l_7, l_8, l_9, l_10, l_12, l_13, l_24, l_31, l_32, l_40, l_41, l_42, l_44, l_45, l_48, l_49, l_50, l_57, l_59, l_60, l_65, l_88, l_89, l_97, l_98, l_99, l_100, l_105, l_108, l_109, l_114, l_118, l_120, l_122, l_144, l_255, l_269, l_279, l_339, l_400, l_600, l_999, l_1000, l_2373, l_2712, ι_lt, ι_le, ι_eq, ι_add, ι_mul, ι_sub, ι_div, ι_n, ι_m1, m1_ι, m1_lt, m1_le, lt_m1, le_m1, m1_lt_m1, m1_le_m1, m1_add1, neg_ι1, ι_addm, ι_addn, Bool.false_eq_true, Nat.not_lt_zero, Nat.add_zero, Nat.zero_add, Nat.mul_zero, Nat.reduceMul, Nat.reduceAdd, Nat.reduceSub, Nat.reduceLT, Nat.reduceLeDiff, Nat.reduceEqDiff, Nat.reduceDiv, Nat.reduceBEq, Nat.reduceBNe, false_or, or_false, true_or, or_true, and_true, true_and, false_and, and_false, not_false_eq_true, not_true_eq_false, if_true, if_false, if_pos, if_neg, Option.bind_some, ite_false, ite_true, eq_self, reduceIte, lm_0, lm_1, lm_2, lm_3, lm_4, lm_5, lm_6, lm_7, lm_8, lm_9, lm_10, lm_11, lm_12, lm_13, lm_14, lm_15, lm_16, lm_17, h0]
  refine ⟨fun v hv h1 h2 => ?_, fun hno => ?_⟩
  · obtain ⟨υ, a1, a2, a3, a4⟩ := g1 v hv (by rw [ι_le (by omega) (by omega)]; exact h1) (by rw [ι_le (by omega) (by omega)]; exact h2)
    rw [a1, Option.bind_some]
    have e4 : ∀ j, υ 4 j = up (up τ 4 (5 + 3 * a) x) 4 (5 + 3 * a + 1) y 4 j := fun j => a4 4 j (by omega)
    have e40 : (up υ 4 (5 + 3 * a + 2) (ι v)) 4 0 = ι a := by
      rw [up_j _ _ _ _ _ (by omega), e4, up_j _ _ _ _ _ (by omega), up_j _ _ _ _ _ (by omega)]; exact h0
    refine ⟨_, rfl, ⟨BR_c a2.1 (by rw [up_k _ _ _ _ _ (by omega), up_k _ _ _ _ _ (by omega)]) (by rw [up_k _ _ _ _ _ (by omega), up_k _ _ _ _ _ (by omega)]), a2.2.1, ?_, ?_⟩, ?_, ?_, ?_, ?_, fun j h1 h2 h3 h4 => ?_, ?_, ?_, fun k j hk => ?_⟩
    · rw [up_k _ _ _ _ _ (by omega), up_k _ _ _ _ _ (by omega)]; exact a2.2.2.1
    · rw [up_k _ _ _ _ _ (by omega), up_k _ _ _ _ _ (by omega)]; exact a2.2.2.2
    · rw [up_j _ _ _ _ _ (by omega), up_j _ _ _ _ _ (by omega)]
      show υ 4 (5 + 3 * a) = x
      rw [e4, up_j _ _ _ _ _ (by omega), up_e]
    · rw [up_j _ _ _ _ _ (by omega), up_j _ _ _ _ _ (by omega)]
      show υ 4 (5 + 3 * a + 1) = y
      rw [e4, up_e]
    · rw [up_j _ _ _ _ _ (by omega), up_e]
    · rw [up_e]
      show up υ 4 (5 + 3 * a + 2) (ι v) 4 0 + ι 1 = _
      rw [e40, ι_add]
    · rw [up_j _ _ _ _ _ h1, up_j _ _ _ _ _ h4]
      show υ 4 j = τ 4 j
      rw [e4, up_j _ _ _ _ _ h3, up_j _ _ _ _ _ h2]
    · rw [up_k _ _ _ _ _ (by omega), up_k _ _ _ _ _ (by omega)]
      refine funext fun j => ?_
      show υ 2 j = τ 2 j
      rw [a4 2 j (by omega), up_k _ _ _ _ _ (by omega), up_k _ _ _ _ _ (by omega)]
    · rw [up_k _ _ _ _ _ (by omega), up_k _ _ _ _ _ (by omega)]
      show υ 0 4 = τ 0 4
      rw [a4 0 4 (by omega), up_k _ _ _ _ _ (by omega), up_k _ _ _ _ _ (by omega)]
    · rw [up_g, if_neg (by omega), up_g, if_neg (by omega)]
      show υ k j = τ k j
      rw [a4 k j (by omega), up_g, if_neg (by omega), up_g, if_neg (by omega)]
  · obtain ⟨υ, p', a1, a2, a3, a4, a5⟩ := g2 (fun v hv z => by
      have hlt := nv_lt s2 hv
      rw [ι_le (by omega) (by omega), ι_le (by omega) (by omega)] at z
      exact hno v hv z)
    rw [a1, Option.bind_some]
    refine ⟨_, rfl, ?_, fun k j hk => ?_⟩
    · rw [up_k _ _ _ _ _ (by omega), up_k _ _ _ _ _ (by omega)]; exact a2
    · rw [up_g, if_neg (by omega), up_g, if_neg (by omega)]
      show υ k j = τ k j
      rw [a5 k j (by omega), up_g, if_neg (by omega), up_g, if_neg (by omega)]
theorem c_ss {σ : Mem} {v : Nat} (hv : v < 10000) : fX11_isSlipSize (ι v) σ = some (if 1 ≤ v ∧ v ≤ 2 then ι 1 else ι 0) := by
  unfold fX11_isSlipSize
  rw [l_1, l_2, ite_lt (by omega) (by omega), ite_lt (by omega) (by omega)]
  repeat' split
  all_goals first | rfl | omega
theorem c_ssN {B : Nat → Nat} {m s : Nat} {σ : Mem} (hs : s ≤ m) (hno : ∀ v, nv B m s = some v → ¬ (1 ≤ v ∧ v ≤ 2)) : fX11_isSlipSize (oi (nv B m s)) σ = some (ι 0) := by
  cases hv : nv B m s with
  | none => show fX11_isSlipSize μ σ = _; unfold fX11_isSlipSize; rw [if_pos (by decide)]; rfl
  | some v => show fX11_isSlipSize (ι v) σ = _; rw [c_ss (nv_lt hs hv), if_neg (hno v hv)]
theorem pB_gone {n a b v : Nat} {F : Nat → Int32} (hF : FI n a b 0 0 F) (hv : v < n) : (F (279 + v) = (1 : Int32)) = ¬ pB F v = true := by
  have := hF.2.2.2.2.2.2.2.2.2.2.2 v hv
  unfold pB
  rw [decide_eq_true_eq]
  rcases this with z | z
  · rw [z]; exact propext ⟨fun y => absurd y (by decide), fun y => absurd rfl y⟩
  · rw [z]; exact propext ⟨fun _ => by decide, fun _ => rfl⟩
theorem slip_sim {B : Nat → Nat} {m s k n a b : Nat} {σ τ : Mem} (hB : BC B m σ) (hT : CT B m σ s) (hD : DR σ τ k n a b) (hk1 : 1 ≤ k) (hP : RP B m τ (Tk B m s)) : Out B m σ τ s (fX6_readSlip 1 σ) (fX12_readsSlip (ι s) τ) := by
  have hm := hB.1
  have hs := hT.1
  obtain ⟨t1, t2, t3, t4⟩ := Tk_spec (B := B) hs
  obtain ⟨u1, u2, u3, u4⟩ := Skp_spec (B := B) t2
  have hQ := hD.1
  have hn := hQ.2.2.2
  have hn1 := QP_pos hQ hk1
  have hF := hD.2.2.1
  have ha := hF.2.1
  have h40 : τ 4 0 = ι a := hF.1
  have hV := hD.2.2.2.1
  have hts : fX10_takesSlip 3 σ = some (if a < 12 then ι 1 else ι 0) := by
    unfold fX10_takesSlip
    rw [hV.2.2.2.1, l_12, ite_le (by omega) (by omega)]
    by_cases c : 12 ≤ a
    · rw [if_pos c, if_neg (by omega)]; rfl
    · rw [if_neg c, if_pos (by omega)]; rfl
  unfold fX6_readSlip fX12_readsSlip
  rw [show (1 + 1) + 1 = 3 from rfl, hts, Option.bind_some, if_neg (show ¬ ((0 : Int32) < 0 ∨ lm 4 ≤ (0 : Int32).toNatClampNeg) by decide), show τ 4 (0 : Int32).toNatClampNeg = ι a from h40]
  by_cases ha12 : a = 12
  · rw [if_neg (show ¬ a < 12 by omega), if_pos (show ι 0 = (0 : Int32) from rfl), if_pos (by rw [ha12]; rfl), r_wrong hP.2.2.2, Option.bind_some]
    exact out_no (fun _ _ => rfl) (fun k j hk => by rw [up_g, if_neg (by omega)]) (by omega) hT.2.2.1 (up_e _ _ _ _)
  · have ha' : a < 12 := by omega
    rw [if_pos ha', if_neg (by decide), if_neg (by rw [l_12, ι_eq (by omega) (by omega)]; exact ha12)]
    obtain ⟨ρ1, a1, a2, a3, a4⟩ := c_nextT hB hT
    obtain ⟨g1, g2⟩ := r_leafRead (x := 0) hP rfl (by omega) hQ hD.2.1 hn1
    rw [a1, Option.bind_some, a2.2.2.2.2]
    have V1 : VR ρ1 3 (τ 2) k n a (τ 4) := VR_c hn ha hV (fun j hj => a4 _ (by omega)) (fun _ _ => rfl)
    have f1 : frQ σ ρ1 := frQ_1 a4
    generalize hs1 : Skp B m (Tk B m s) = s1 at *
    by_cases hok : ∃ v, nv B m s1 = some v ∧ v < n
    · obtain ⟨v, hv, hvn⟩ := hok
      obtain ⟨υ, b1, b2, b3, b4⟩ := g1 v hv (by omega) hvn
      have b1 : fX12_leafRead (0 : Int32) τ = some (ι v, υ) := b1
      have e4 : υ 4 = τ 4 := funext fun j => b4 4 j (by omega)
      have hfn : ¬ ((279 : Int32) + ι v < 0 ∨ lm 4 ≤ ((279 : Int32) + ι v).toNatClampNeg) := by simp (disch := omega) only [l_0, l_1, l_2, l_3, l_4, l_5, l_6, l_7, l_8, l_9, l_10, l_12, l_13, l_24, l_31, l_32, l_40, l_41, l_42, l_44, l_45, l_48, l_49, l_50, l_57, l_59, l_60, l_65, l_88, l_89, l_97, l_98, l_99, l_100, l_105, l_108, l_109, l_114, l_118, l_120, l_122, l_144, l_255, l_269, l_279, l_339, l_400, l_600, l_999, l_1000, l_2373, l_2712, ι_lt, ι_le, ι_eq, ι_add, ι_mul, ι_sub, ι_div, ι_n, ι_m1, m1_ι, m1_lt, m1_le, lt_m1, le_m1, m1_lt_m1, m1_le_m1, m1_add1, neg_ι1, ι_addm, ι_addn, Bool.false_eq_true, Nat.not_lt_zero, Nat.add_zero, Nat.zero_add, Nat.mul_zero, Nat.reduceMul, Nat.reduceAdd, Nat.reduceSub, Nat.reduceLT, Nat.reduceLeDiff, Nat.reduceEqDiff, Nat.reduceDiv, Nat.reduceBEq, Nat.reduceBNe, false_or, or_false, true_or, or_true, and_true, true_and, false_and, and_false, not_false_eq_true, not_true_eq_false, if_true, if_false, if_pos, if_neg, Option.bind_some, ite_false, ite_true, eq_self, reduceIte, lm_0, lm_1, lm_2, lm_3, lm_4, lm_5, lm_6, lm_7, lm_8, lm_9, lm_10, lm_11, lm_12, lm_13, lm_14, lm_15, lm_16, lm_17]; omega
      have hnn : ((279 : Int32) + ι v).toNatClampNeg = 279 + v := by simp (disch := omega) only [l_0, l_1, l_2, l_3, l_4, l_5, l_6, l_7, l_8, l_9, l_10, l_12, l_13, l_24, l_31, l_32, l_40, l_41, l_42, l_44, l_45, l_48, l_49, l_50, l_57, l_59, l_60, l_65, l_88, l_89, l_97, l_98, l_99, l_100, l_105, l_108, l_109, l_114, l_118, l_120, l_122, l_144, l_255, l_269, l_279, l_339, l_400, l_600, l_999, l_1000, l_2373, l_2712, ι_lt, ι_le, ι_eq, ι_add, ι_mul, ι_sub, ι_div, ι_n, ι_m1, m1_ι, m1_lt, m1_le, lt_m1, le_m1, m1_lt_m1, m1_le_m1, m1_add1, neg_ι1, ι_addm, ι_addn, Bool.false_eq_true, Nat.not_lt_zero, Nat.add_zero, Nat.zero_add, Nat.mul_zero, Nat.reduceMul, Nat.reduceAdd, Nat.reduceSub, Nat.reduceLT, Nat.reduceLeDiff, Nat.reduceEqDiff, Nat.reduceDiv, Nat.reduceBEq, Nat.reduceBNe, false_or, or_false, true_or, or_true, and_true, true_and, false_and, and_false, not_false_eq_true, not_true_eq_false, if_true, if_false, if_pos, if_neg, Option.bind_some, ite_false, ite_true, eq_self, reduceIte]
      rw [b1, Option.bind_some, hv]
      show Out B m σ τ s ((fX10_isPresent 3 (ι v) ρ1).bind _) ((fX12_isFine υ).bind _)
      rw [r_fine b2.2.2.2, Option.bind_some, if_neg (by decide), c_isPresent hn V1 hvn, Option.bind_some]
      show Out B m σ τ s _ (if (279 : Int32) + ι v < 0 ∨ lm 4 ≤ ((279 : Int32) + ι v).toNatClampNeg then none else if υ 4 ((279 : Int32) + ι v).toNatClampNeg = (1 : Int32) then (fX12_wrongAt (υ 0 14) υ).bind fun v49 => fX12_readsSlip_j52 (ι v) v49 else fX12_readsSlip_j52 (ι v) υ)
      rw [if_neg hfn, hnn, e4]
      by_cases hp : pB (τ 4) v = true
      · rw [if_pos hp, if_neg (by decide), if_neg (show ¬ τ 4 (279 + v) = (1 : Int32) by rw [pB_gone hF hvn]; exact fun z => z hp)]
        obtain ⟨tt1, tt2, tt3, tt4⟩ := Tk_spec (B := B) u2
        obtain ⟨uu1, uu2, uu3, uu4⟩ := Skp_spec (B := B) tt2
        obtain ⟨ρ2, c1, c2, c3, c4⟩ := c_nextT a3 a2
        obtain ⟨υ2, d1, d2, d3⟩ := r_j52 b2 rfl (ι v)
        rw [c1, Option.bind_some, c_side c3 c2, Option.bind_some, d1]
        have f2 : frQ σ ρ2 := frQ_trans f1 (frQ_1 c4)
        have fr2 : frM τ υ2 := frM_trans (frL_M b4) (frL_M d3)
        have h402 : υ2 4 0 = ι a := (fr2 4 0 (by omega)).trans h40
        generalize hs2 : Skp B m (Tk B m s1) = s2 at *
        cases hsd : sd B m s2 with
        | none =>
          rw [hsd] at d2
          have d2 : RP B m υ2 s2 := d2
          rw [if_pos (show oi none = (-1 : Int32) from rfl)]
          unfold fX12_readsSlip_j79 fX12_tokenNow
          rw [if_pos (show oi none = (-1 : Int32) from rfl)]
          obtain ⟨υ3, e1, e2, e3, e5⟩ := r_look d2.1 d2.2.1 d2.2.2.1
          have hss : Skp B m s2 = s2 := by rw [← hs2]; exact Skp_idem tt2
          rw [hss] at e1 e2 e3
          have k15 : υ3 0 15 = μ := (e5 0 15 (by omega)).trans d2.2.2.2
          rw [e1, Option.bind_some, Option.bind_some, r_wrong k15, Option.bind_some]
          have hBD : BD B m (up υ3 0 15 (υ3 0 14)) s2 := ⟨BR_c (frM_BR (frL_M e5) d2.1) (by rw [up_j _ _ _ _ _ (by omega)]) (by rw [up_k _ _ _ _ _ (by omega)]), by omega, by rw [up_e]; exact e3, s2, uu2, by rw [up_j _ _ _ _ _ (by omega)]; exact e2⟩
          obtain ⟨ω, q1, q2, q3⟩ := bad_j93 hBD (a := a) (by rw [up_k _ _ _ _ _ (by omega), e5 4 0 (by omega)]; exact h402) ha' (ι v) (oi none)
          show Out B m σ τ s _ (fX12_readsSlip_j93 (ι v) (oi none) (up υ3 0 15 (υ3 0 14)))
          rw [q1]
          refine out_no (s' := s2) f2 (frP_trans (frP_trans (frP_M fr2) (frP_trans (frP_M (frL_M e5)) (fun k j hk => ?_))) q3) (by omega) c2.2.2.1 q2
          rw [up_g, if_neg (by omega)]
        | some i =>
          have hi := sd_lt hsd
          rw [hsd] at d2
          have d2 : RP B m υ2 (Tk B m s2) := d2
          have hne : ¬ oi (some i) = (-1 : Int32) := oi_pos rfl (by omega)
          rw [if_neg hne]
          unfold fX12_readsSlip_j79
          rw [if_neg hne]
          obtain ⟨w1, w2, w3, w4⟩ := Tk_spec (B := B) uu2
          obtain ⟨x1, x2, x3, x4⟩ := Skp_spec (B := B) w2
          obtain ⟨ρ3, e1, e2, e3, e5⟩ := c_nextT c3 c2
          obtain ⟨j1, j2⟩ := r_j93 d2 rfl h402 ha' (ι v) (ι i)
          rw [e1, Option.bind_some, e2.2.2.2.2]
          have f3 : frQ σ ρ3 := frQ_trans f2 (frQ_1 e5)
          generalize hs3 : Skp B m (Tk B m s2) = s3 at *
          by_cases hok3 : ∃ w, nv B m s3 = some w ∧ 1 ≤ w ∧ w ≤ 2
          · obtain ⟨w, hw, hw1, hw2⟩ := hok3
            have hwl := nv_lt x2 hw
            obtain ⟨ω, q1, q2, q3, q4, q5, q6, q7, q8, q9, q10⟩ := j1 w hw hw1 hw2
            rw [hw]
            show Out B m σ τ s ((fX11_isSlipSize (ι w) ρ3).bind _) (fX12_readsSlip_j93 (ι v) (ι i) υ2)
            rw [c_ss hwl, Option.bind_some, if_pos (show 1 ≤ w ∧ w ≤ 2 from ⟨hw1, hw2⟩), if_neg (by decide), q1]
            have hD3 : DR ρ3 υ2 k n a b := DR_1 hD (fun j hj => by rw [e5 j hj, c4 j hj, a4 j hj]) fr2
            obtain ⟨ρ4, y1, y2, y3⟩ := slip_DR hD3 ha' hvn hi (show w = 1 ∨ w = 2 by omega) q8 q9 q3 q4 q5 q6 q7
            have y1 : fX10_addSlip 3 (oi (some v)) (oi (some i)) (oi (some w)) ρ3 = some ρ4 := y1
            rw [y1, Option.bind_some]
            obtain ⟨ρ5, z1, z2, z3, z4⟩ := c_nextT (frQ_BC (frQ_3 y3) e3) (CT_c e2 (y3 1 (by omega)))
            rw [z1, Option.bind_some]
            have hw' := Tk_spec (B := B) x2
            have hx' := Skp_spec (B := B) hw'.2.1
            exact out_yes (frQ_trans f3 (frQ_trans (frQ_3 y3) (frQ_1 z4))) (frP_trans (frP_M fr2) q10) hk1 (DR_c y2 (fun j h1 h2 => z4 j (by omega)) rfl rfl rfl) z2 q2 rfl (by omega)
          · have hno3 : ∀ w, nv B m s3 = some w → ¬ (1 ≤ w ∧ w ≤ 2) := fun w hw z => hok3 ⟨w, hw, z.1, z.2⟩
            obtain ⟨ω, q1, q2, q3⟩ := j2 hno3
            rw [c_ssN x2 hno3, Option.bind_some, if_pos (show ι 0 = (0 : Int32) from rfl)]
            show Out B m σ τ s _ (fX12_readsSlip_j93 (ι v) (ι i) υ2)
            rw [q1]
            exact out_no (s' := s3) f3 (frP_trans (frP_M fr2) q3) (by omega) e2.2.2.1 q2
      · rw [if_neg hp, if_pos (show ι 0 = (0 : Int32) from rfl), if_pos (show τ 4 (279 + v) = (1 : Int32) by rw [pB_gone hF hvn]; exact hp), r_wrong b2.2.2.2, Option.bind_some]
        have hBD : BD B m (up υ 0 15 (υ 0 14)) s1 := ⟨BR_c b2.1 (by rw [up_j _ _ _ _ _ (by omega)]) (by rw [up_k _ _ _ _ _ (by omega)]), by omega, by rw [up_e]; exact b3, _, b2.2.1, by rw [up_j _ _ _ _ _ (by omega)]; exact b2.2.2.1⟩
        obtain ⟨ω, q1, q2, q3⟩ := bad_j52 hBD (a := a) (by rw [up_k _ _ _ _ _ (by omega), e4]; exact h40) ha' (ι v)
        rw [q1]
        refine out_no (s' := s1) f1 (frP_trans (frP_M (frL_M b4)) (frP_trans (fun k j hk => ?_) q3)) (by omega) a2.2.2.1 q2
        rw [up_g, if_neg (by omega)]
    · have hno : ∀ v, nv B m s1 = some v → ¬ (0 ≤ v ∧ v < n) := fun v hv z => hok ⟨v, hv, z.2⟩
      obtain ⟨υ, b1, b2, b3⟩ := g2 hno
      have b1 : fX12_leafRead (0 : Int32) τ = some (ι 0, υ) := b1
      have hip : fX10_isPresent 3 (oi (nv B m s1)) ρ1 = some (ι 0) := by
        cases hv : nv B m s1 with
        | none => exact c_isPresent_neg (by decide)
        | some v =>
          have hlt := nv_lt u2 hv
          exact c_isPresent_out hn V1 (Nat.le_of_not_lt fun z => hno v hv ⟨by omega, z⟩) (by omega)
      obtain ⟨ω, q1, q2, q3⟩ := bad_j52 b2 (a := a) ((b3 4 0 (by omega)).trans h40) ha' (ι 0)
      rw [hip, b1, Option.bind_some, Option.bind_some, if_pos (show ι 0 = (0 : Int32) from rfl)]
      show Out B m σ τ s _ ((fX12_isFine υ).bind _)
      rw [r_notf b2.2.2.1 b2.2.1, Option.bind_some, if_pos (show ι 0 = (0 : Int32) from rfl)]
      show Out B m σ τ s _ (fX12_readsSlip_j52 (ι 0) υ)
      rw [q1]
      exact out_no (s' := s1) f1 (frP_trans (frP_M b3) q3) (by omega) a2.2.2.1 q2

/-! PURE PART: statements of the setup text, labels and missing leaves -/
def sy (B : Nat → Nat) (m s : Nat) : Option Nat := if isW B m 6 s then some 0 else if isW B m 7 s then some 1 else if isW B m 8 s then some 2 else if isW B m 9 s then some 3 else none
theorem sy_lt {B : Nat → Nat} {m s i : Nat} (h : sy B m s = some i) : i < 4 := by
  unfold sy at h
  by_cases c : isW B m 6 s = true
  · rw [if_pos c] at h; cases h; omega
  · rw [if_neg c] at h
    by_cases c : isW B m 7 s = true
    · rw [if_pos c] at h; cases h; omega
    · rw [if_neg c] at h
      by_cases c : isW B m 8 s = true
      · rw [if_pos c] at h; cases h; omega
      · rw [if_neg c] at h
        by_cases c : isW B m 9 s = true
        · rw [if_pos c] at h; cases h; omega
        · rw [if_neg c] at h; cases h
theorem c_style {B : Nat → Nat} {m s : Nat} {σ : Mem} (hB : BC B m σ) (hT : CT B m σ s) : fX6_styleNamed 1 σ = some (oi (sy B m s)) := by
  unfold fX6_styleNamed sy
  rw [c_isWord hB hT (wl_ok 6 (by omega)).2, Option.bind_some, c_isWord hB hT (wl_ok 7 (by omega)).2, Option.bind_some, c_isWord hB hT (wl_ok 8 (by omega)).2, Option.bind_some, c_isWord hB hT (wl_ok 9 (by omega)).2, Option.bind_some]
  by_cases c : isW B m 6 s = true
  · rw [if_pos c, if_pos c, if_neg (by decide)]; rfl
  · rw [if_neg c, if_neg c, if_pos (show ι 0 = (0 : Int32) from rfl)]
    by_cases c : isW B m 7 s = true
    · rw [if_pos c, if_pos c, if_neg (by decide)]; rfl
    · rw [if_neg c, if_neg c, if_pos (show ι 0 = (0 : Int32) from rfl)]
      by_cases c : isW B m 8 s = true
      · rw [if_pos c, if_pos c, if_neg (by decide)]; rfl
      · rw [if_neg c, if_neg c, if_pos (show ι 0 = (0 : Int32) from rfl)]
        by_cases c : isW B m 9 s = true
        · rw [if_pos c, if_pos c, if_neg (by decide)]; rfl
        · rw [if_neg c, if_neg c, if_pos (show ι 0 = (0 : Int32) from rfl)]; rfl
def styT (w : Nat) (i : Int32) (g : Mem → Option (Int32 × Mem)) (τ : Mem) : Option (Int32 × Mem) := (fX12_takes w τ).bind fun v => if v.1 = 0 then g v.2 else some (i, v.2)
def styE (τ : Mem) : Option (Int32 × Mem) := (fX12_tokenNow τ).bind fun v61 => (fX12_wrongAt v61.1 v61.2).bind fun v64 => some ((-1 : Int32), v64)
theorem style_eq (τ : Mem) : fX12_readsStyle τ = styT 16 0 (styT 17 1 (styT 18 2 (styT 19 3 styE))) τ := by
  unfold fX12_readsStyle
  simp only [if_pos (show (-1 : Int32) = (-1 : Int32) from rfl), if_neg (show ¬ (3 : Int32) = (-1 : Int32) by decide), if_neg (show ¬ (2 : Int32) = (-1 : Int32) by decide), if_neg (show ¬ (1 : Int32) = (-1 : Int32) by decide), if_neg (show ¬ (0 : Int32) = (-1 : Int32) by decide)]
  rfl
theorem r_styT {B : Nat → Nat} {m p s w : Nat} {τ : Mem} (i : Int32) (g : Mem → Option (Int32 × Mem)) (h : RP B m τ p) (hs : Skp B m p = s) (hw : w < 20) : ∃ υ, styT w i g τ = (if isW B m w s then some (i, υ) else g υ) ∧ RP B m υ (if isW B m w s then Tk B m s else s) ∧ frL τ υ := by
  obtain ⟨υ, a1, a2, a3, a4⟩ := r_takes (w := w) h hs (wl_ok w hw).1 (wl_ok w hw).2
  refine ⟨υ, ?_, a2, a4⟩
  unfold styT
  rw [a1, Option.bind_some]
  by_cases c : isW B m w s = true
  · rw [if_pos c, if_pos c, if_neg (show ¬ ((ι 1, υ) : Int32 × Mem).1 = 0 from (by decide : ¬ ι 1 = (0 : Int32)))]
  · rw [if_neg c, if_neg c, if_pos (show ((ι 0, υ) : Int32 × Mem).1 = 0 from rfl)]
theorem frL_trans {τ υ ω : Mem} (h1 : frL τ υ) (h2 : frL υ ω) : frL τ ω := fun k j hk => (h2 k j hk).trans (h1 k j hk)
theorem r_style {B : Nat → Nat} {m p s : Nat} {τ : Mem} (h : RP B m τ p) (hs : Skp B m p = s) : (∀ i, sy B m s = some i → ∃ υ, fX12_readsStyle τ = some (ι i, υ) ∧ RP B m υ (Tk B m s) ∧ frL τ υ) ∧ (sy B m s = none → ∃ υ, fX12_readsStyle τ = some (μ, υ) ∧ BD B m υ s ∧ frM τ υ) := by
  have hm := h.1.1
  have s2 := (Skp_spec (B := B) h.2.1).2.1
  rw [hs] at s2
  have hss : Skp B m s = s := by rw [← hs]; exact Skp_idem h.2.1
  rw [style_eq]
  obtain ⟨υ1, a1, a2, a3⟩ := r_styT 0 (styT 17 1 (styT 18 2 (styT 19 3 styE))) h hs (w := 16) (by omega)
  rw [isW_16] at a1 a2
  rw [a1]
  unfold sy
  by_cases c : isW B m 6 s = true
  · rw [if_pos c] at a2
    simp only [if_pos c]
    refine ⟨fun i hi => ?_, fun z => by cases z⟩
    cases hi
    exact ⟨υ1, rfl, a2, a3⟩
  · rw [if_neg c] at a2
    simp only [if_neg c]
    obtain ⟨υ2, b1, b2, b3⟩ := r_styT 1 (styT 18 2 (styT 19 3 styE)) a2 hss (w := 17) (by omega)
    rw [isW_17] at b1 b2
    rw [b1]
    by_cases c : isW B m 7 s = true
    · rw [if_pos c] at b2
      simp only [if_pos c]
      refine ⟨fun i hi => ?_, fun z => by cases z⟩
      cases hi
      exact ⟨υ2, rfl, b2, frL_trans a3 b3⟩
    · rw [if_neg c] at b2
      simp only [if_neg c]
      obtain ⟨υ3, c1, c2, c3⟩ := r_styT 2 (styT 19 3 styE) b2 hss (w := 18) (by omega)
      rw [isW_18] at c1 c2
      rw [c1]
      by_cases c : isW B m 8 s = true
      · rw [if_pos c] at c2
        simp only [if_pos c]
        refine ⟨fun i hi => ?_, fun z => by cases z⟩
        cases hi
        exact ⟨υ3, rfl, c2, frL_trans a3 (frL_trans b3 c3)⟩
      · rw [if_neg c] at c2
        simp only [if_neg c]
        obtain ⟨υ4, d1, d2, d3⟩ := r_styT 3 styE c2 hss (w := 19) (by omega)
        rw [isW_19] at d1 d2
        rw [d1]
        have fr : frL τ υ4 := frL_trans a3 (frL_trans b3 (frL_trans c3 d3))
        by_cases c : isW B m 9 s = true
        · rw [if_pos c] at d2
          simp only [if_pos c]
          refine ⟨fun i hi => ?_, fun z => by cases z⟩
          cases hi
          exact ⟨υ4, rfl, d2, fr⟩
        · rw [if_neg c] at d2
          simp only [if_neg c]
          refine ⟨fun i hi => by cases hi, fun _ => ?_⟩
          obtain ⟨υ5, e1, e2, e3, e4⟩ := r_look d2.1 d2.2.1 d2.2.2.1
          rw [hss] at e1 e2 e3
          have k15 : υ5 0 15 = μ := (e4 0 15 (by omega)).trans d2.2.2.2
          unfold styE fX12_tokenNow
          rw [e1, Option.bind_some, Option.bind_some, r_wrong k15, Option.bind_some]
          refine ⟨_, rfl, ⟨BR_c (frM_BR (frL_M e4) d2.1) (up_j _ _ _ _ _ (by omega)) (up_k _ _ _ _ _ (by omega)), by omega, ?_, s, s2, ?_⟩, fun k j hk => ?_⟩
          · rw [up_e]; exact e3
          · rw [up_j _ _ _ _ _ (by omega)]; exact e2
          · rw [up_g, if_neg (by omega)]
            show υ5 k j = τ k j
            rw [e4 k j (by omega)]; exact fr k j (by omega)
theorem bad_style {B : Nat → Nat} {m e : Nat} {τ : Mem} (h : BD B m τ e) : ∃ υ, fX12_readsStyle τ = some (μ, υ) ∧ BD B m υ e ∧ frL τ υ := by
  have st : ∀ w i g, styT w i g τ = g τ := fun w i g => by
    unfold styT; rw [bad_takes h, Option.bind_some]; exact if_pos rfl
  rw [style_eq, st, st, st, st]
  obtain ⟨v, υ, a1, a2, a3⟩ := bad_look h
  unfold styE fX12_tokenNow
  rw [a1, Option.bind_some, Option.bind_some, r_wrong_no a2.2.2.1 a2.2.1, Option.bind_some]
  exact ⟨υ, rfl, a2, a3⟩
def lT3 (b : Nat) (v : Int32 × Mem) : Option Mem := (fX12_number (ι 1) (ι 999) (up v.2 4 (41 + 4 * b + 2) v.1)).bind fun v82 => some (up (up v82.2 4 (41 + 4 * b + 3) v82.1) 4 1 ((up v82.2 4 (41 + 4 * b + 3) v82.1) 4 1 + ι 1))
def lT2 (b : Nat) (v : Int32 × Mem) : Option Mem := (fX12_readsStyle (up v.2 4 (41 + 4 * b + 1) v.1)).bind (lT3 b)
def lT1 (b : Nat) (v : Int32 × Mem) : Option Mem := (fX12_leafRead v.1 (up v.2 4 (41 + 4 * b) v.1)).bind (lT2 b)
theorem label_eq {τ : Mem} {b : Nat} (h : τ 4 1 = ι b) (hb : b < 12) (x : Int32) : fX12_readsLabel x τ = (fX12_leafRead (ι 0) τ).bind (lT1 b) := by
  unfold fX12_readsLabel
  simp (disch := omega) only [l_0, l_1, l_2, l_3, l_4, l_5, l_6, l_7, l_8, l_9, l_10, l_12, l_13, l_24, l_31, l_32, l_40, l_41, l_42, l_44, l_45, l_48, l_49, l_50, l_57, l_59, l_60, l_65, l_88, l_89, l_97, l_98, l_99, l_100, l_105, l_108, l_109, l_114, l_118, l_120, l_122, l_144, l_255, l_269, l_279, l_339, l_400, l_600, l_999, l_1000, l_2373, l_2712, ι_lt, ι_le, ι_eq, ι_add, ι_mul, ι_sub, ι_div, ι_n, ι_m1, m1_ι, m1_lt, m1_le, lt_m1, le_m1, m1_lt_m1, m1_le_m1, m1_add1, neg_ι1, ι_addm, ι_addn, Bool.false_eq_true, Nat.not_lt_zero, Nat.add_zero, Nat.zero_add, Nat.mul_zero, Nat.reduceMul, Nat.reduceAdd, Nat.reduceSub, Nat.reduceLT, Nat.reduceLeDiff, Nat.reduceEqDiff, Nat.reduceDiv, Nat.reduceBEq, Nat.reduceBNe, false_or, or_false, true_or, or_true, and_true, true_and, false_and, and_false, not_false_eq_true, not_true_eq_false, if_true, if_false, if_pos, if_neg, Option.bind_some, ite_false, ite_true, eq_self, reduceIte, lm_0, lm_1, lm_2, lm_3, lm_4, lm_5, lm_6, lm_7, lm_8, lm_9, lm_10, lm_11, lm_12, lm_13, lm_14, lm_15, lm_16, lm_17, h, up_e]
  rfl
theorem leaf_bad {B : Nat → Nat} {m e k n : Nat} {τ : Mem} (h : BD B m τ e) (hQ : QP (τ 2) k n) (h4 : τ 0 4 = ι k) (x : Int32) : fX12_leafRead x τ = some (x, τ) := by
  unfold fX12_leafRead
  rw [r_leavesRead hQ h4, Option.bind_some, bad_number h, Option.bind_some]
theorem BD_4 {B : Nat → Nat} {m e j : Nat} {τ : Mem} {x : Int32} (h : BD B m τ e) : BD B m (up τ 4 j x) e := BD_c h (up_k _ _ _ _ _ (by omega)) (by rw [up_k _ _ _ _ _ (by omega)]) (by rw [up_k _ _ _ _ _ (by omega)]) (by rw [up_k _ _ _ _ _ (by omega)])
theorem frP_4 (τ : Mem) (j : Nat) (x : Int32) : frP τ (up τ 4 j x) := fun k i hk => by rw [up_g, if_neg (by omega)]
theorem bad_T3 {B : Nat → Nat} {m e b : Nat} {v : Int32 × Mem} (h : BD B m v.2 e) : ∃ υ, lT3 b v = some υ ∧ υ 0 15 = ι e ∧ frP v.2 υ := by
  unfold lT3
  rw [bad_number (BD_4 h), Option.bind_some]
  refine ⟨_, rfl, ?_, frP_trans (frP_4 _ _ _) (frP_trans (frP_4 _ _ _) (frP_4 _ _ _))⟩
  rw [up_k _ _ _ _ _ (by omega), up_k _ _ _ _ _ (by omega)]
  show up v.2 4 (41 + 4 * b + 2) v.1 0 15 = _
  rw [up_k _ _ _ _ _ (by omega)]; exact h.2.2.1
theorem bad_T2 {B : Nat → Nat} {m e b : Nat} {v : Int32 × Mem} (h : BD B m v.2 e) : ∃ υ, lT2 b v = some υ ∧ υ 0 15 = ι e ∧ frP v.2 υ := by
  unfold lT2
  obtain ⟨υ, a1, a2, a3⟩ := bad_style (BD_4 (j := 41 + 4 * b + 1) (x := v.1) h)
  rw [a1, Option.bind_some]
  obtain ⟨ω, b1, b2, b3⟩ := bad_T3 (b := b) (v := (μ, υ)) a2
  exact ⟨ω, b1, b2, frP_trans (frP_4 _ _ _) (frP_trans (frP_M (frL_M a3)) b3)⟩
theorem bad_T1 {B : Nat → Nat} {m e b k n : Nat} {v : Int32 × Mem} (h : BD B m v.2 e) (hQ : QP (v.2 2) k n) (h4 : v.2 0 4 = ι k) : ∃ υ, lT1 b v = some υ ∧ υ 0 15 = ι e ∧ frP v.2 υ := by
  unfold lT1
  rw [leaf_bad (BD_4 h) (k := k) (n := n) (by rw [up_k _ _ _ _ _ (by omega)]; exact hQ) (by rw [up_k _ _ _ _ _ (by omega)]; exact h4), Option.bind_some]
  obtain ⟨ω, b1, b2, b3⟩ := bad_T2 (b := b) (v := (v.1, up v.2 4 (41 + 4 * b) v.1)) (BD_4 h)
  exact ⟨ω, b1, b2, frP_trans (frP_4 _ _ _) b3⟩
theorem RP_4 {B : Nat → Nat} {m p j : Nat} {τ : Mem} {x : Int32} (h : RP B m τ p) : RP B m (up τ 4 j x) p := ⟨BR_c h.1 (by rw [up_k _ _ _ _ _ (by omega)]) (up_k _ _ _ _ _ (by omega)), h.2.1, by rw [up_k _ _ _ _ _ (by omega)]; exact h.2.2.1, by rw [up_k _ _ _ _ _ (by omega)]; exact h.2.2.2⟩
theorem c_start {σ : Mem} {v : Nat} (hv : v < 10000) : fX11_isStart (ι v) σ = some (if 1 ≤ v ∧ v ≤ 999 then ι 1 else ι 0) := by
  unfold fX11_isStart
  rw [l_1, l_999, ite_lt (by omega) (by omega), ite_lt (by omega) (by omega)]
  repeat' split
  all_goals first | rfl | omega
theorem c_startN {B : Nat → Nat} {m s : Nat} {σ : Mem} (hs : s ≤ m) (hno : ∀ v, nv B m s = some v → ¬ (1 ≤ v ∧ v ≤ 999)) : fX11_isStart (oi (nv B m s)) σ = some (ι 0) := by
  cases hv : nv B m s with
  | none => show fX11_isStart μ σ = _; unfold fX11_isStart; rw [if_pos (by decide)]; rfl
  | some v => show fX11_isStart (ι v) σ = _; rw [c_start (nv_lt hs hv), if_neg (hno v hv)]
theorem c_hlN {B : Nat → Nat} {m s k n a : Nat} {q F : Nat → Int32} {σ : Mem} (hs : s ≤ m) (hn : n ≤ 60) (hV : VR σ 3 q k n a F) (hno : ∀ v, nv B m s = some v → ¬ v < n) : fX10_hasLeaf 3 (oi (nv B m s)) σ = some (ι 0) := by
  cases hv : nv B m s with
  | none => exact c_hasLeaf_neg (by decide)
  | some v =>
    have := nv_lt hs hv
    show fX10_hasLeaf 3 (ι v) σ = _
    rw [c_hasLeaf hn hV (by omega), if_neg (hno v hv)]
theorem label_sim {B : Nat → Nat} {m s k n a b : Nat} {σ τ : Mem} (hB : BC B m σ) (hT : CT B m σ s) (hD : DR σ τ k n a b) (hk1 : 1 ≤ k) (hP : RP B m τ (Tk B m s)) : Out B m σ τ s (fX6_readLabel 1 σ) (fX12_readsLabel (ι s) τ) := by
  have hm := hB.1
  have hs := hT.1
  obtain ⟨t1, t2, t3, t4⟩ := Tk_spec (B := B) hs
  obtain ⟨u1, u2, u3, u4⟩ := Skp_spec (B := B) t2
  have hQ := hD.1
  have hn := hQ.2.2.2
  have hn1 := QP_pos hQ hk1
  have hF := hD.2.2.1
  have ha := hF.2.1
  have hb := hF.2.2.2.2.1
  have h41 : τ 4 1 = ι b := hF.2.2.2.1
  have hV := hD.2.2.2.1
  have hL := hD.2.2.2.2.1
  have htr : fX1_takesRange 14 σ = some (if b < 12 then ι 1 else ι 0) := by
    unfold fX1_takesRange
    rw [hL.2.1, l_12, ite_le (by omega) (by omega)]
    by_cases c : 12 ≤ b
    · rw [if_pos c, if_neg (by omega)]; rfl
    · rw [if_neg c, if_pos (by omega)]; rfl
  by_cases hb12 : b = 12
  · unfold fX6_readLabel fX12_readsLabel
    rw [show (1 + 1) + 12 = 14 from rfl, htr, Option.bind_some, if_neg (show ¬ b < 12 by omega), if_pos (show ι 0 = (0 : Int32) from rfl), if_neg (show ¬ ((1 : Int32) < 0 ∨ lm 4 ≤ (1 : Int32).toNatClampNeg) by decide), if_pos (show τ 4 (1 : Int32).toNatClampNeg = (12 : Int32) from h41.trans (by rw [hb12]; rfl)), r_wrong hP.2.2.2, Option.bind_some]
    exact out_no (fun _ _ => rfl) (fun k j hk => by rw [up_g, if_neg (by omega)]) (by omega) hT.2.2.1 (up_e _ _ _ _)
  · have hb' : b < 12 := by omega
    rw [label_eq h41 hb']
    unfold fX6_readLabel
    rw [show (1 + 1) + 12 = 14 from rfl, htr, Option.bind_some, if_pos hb', if_neg (by decide), show (1 + 1) + 1 = 3 from rfl]
    obtain ⟨ρ1, a1, a2, a3, a4⟩ := c_nextT hB hT
    obtain ⟨g1, g2⟩ := r_leafRead (x := 0) hP rfl (by omega) hQ hD.2.1 hn1
    rw [a1, Option.bind_some, a2.2.2.2.2]
    have V1 : VR ρ1 3 (τ 2) k n a (τ 4) := VR_c hn ha hV (fun j hj => a4 _ (by omega)) (fun _ _ => rfl)
    have f1 : frQ σ ρ1 := frQ_1 a4
    generalize hs1 : Skp B m (Tk B m s) = s1 at *
    by_cases hok : ∃ v, nv B m s1 = some v ∧ v < n
    · obtain ⟨v, hv, hvn⟩ := hok
      obtain ⟨υ, b1, b2, b3, b4⟩ := g1 v hv (by omega) hvn
      rw [b1, Option.bind_some, hv]
      show Out B m σ τ s ((fX10_hasLeaf 3 (ι v) ρ1).bind _) _
      rw [c_hasLeaf hn V1 (by omega), Option.bind_some, if_pos hvn, if_neg (by decide)]
      obtain ⟨tt1, tt2, tt3, tt4⟩ := Tk_spec (B := B) u2
      obtain ⟨uu1, uu2, uu3, uu4⟩ := Skp_spec (B := B) tt2
      obtain ⟨ρ2, c1, c2, c3, c4⟩ := c_nextT a3 a2
      have V2 : VR ρ2 3 (τ 2) k n a (τ 4) := VR_c hn ha V1 (fun j hj => c4 _ (by omega)) (fun _ _ => rfl)
      have f2 : frQ σ ρ2 := frQ_trans f1 (frQ_1 c4)
      have e2 : υ 2 = τ 2 := funext fun j => b4 2 j (by omega)
      have e04 : υ 0 4 = ι k := (b4 0 4 (by omega)).trans hD.2.1
      unfold lT1
      show Out B m σ τ s _ ((fX12_leafRead (ι v) (up υ 4 (41 + 4 * b) (ι v))).bind (lT2 b))
      have P2 : RP B m (up υ 4 (41 + 4 * b) (ι v)) (Tk B m s1) := RP_4 b2
      obtain ⟨j1, j2⟩ := r_leafRead (x := v) P2 rfl (by omega) (k := k) (n := n) (by rw [up_k _ _ _ _ _ (by omega), e2]; exact hQ) (by rw [up_k _ _ _ _ _ (by omega)]; exact e04) hn1
      rw [c1, Option.bind_some, c2.2.2.2.2]
      have fr1 : frP τ (up υ 4 (41 + 4 * b) (ι v)) := frP_trans (frP_M (frL_M b4)) (frP_4 _ _ _)
      generalize hs2 : Skp B m (Tk B m s1) = s2 at *
      by_cases hok2 : ∃ w, nv B m s2 = some w ∧ v ≤ w ∧ w < n
      · obtain ⟨w, hw, hvw, hwn⟩ := hok2
        obtain ⟨υ2, d1, d2, d3, d4⟩ := j1 w hw hvw hwn
        have vl := nv_lt u2 hv
        have wlt := nv_lt uu2 hw
        rw [d1, Option.bind_some, hw]
        show Out B m σ τ s ((fX10_hasLeaf 3 (ι w) ρ2).bind _) (lT2 b (ι w, υ2))
        rw [c_hasLeaf hn V2 (by omega), Option.bind_some, if_pos hwn, if_neg (by decide), if_pos (show oi (some v) ≤ oi (some w) from (by rw [show oi (some v) = ι v from rfl, show oi (some w) = ι w from rfl, ι_le (by omega) (by omega)]; exact hvw))]
        obtain ⟨x1, x2, x3, x4⟩ := Tk_spec (B := B) uu2
        obtain ⟨y1, y2, y3, y4⟩ := Skp_spec (B := B) x2
        obtain ⟨ρ3, e1, e3, e5, e6⟩ := c_nextT c3 c2
        have f3 : frQ σ ρ3 := frQ_trans f2 (frQ_1 e6)
        unfold lT2
        show Out B m σ τ s _ ((fX12_readsStyle (up υ2 4 (41 + 4 * b + 1) (ι w))).bind (lT3 b))
        have P3 : RP B m (up υ2 4 (41 + 4 * b + 1) (ι w)) (Tk B m s2) := RP_4 d2
        have fr2 : frP τ (up υ2 4 (41 + 4 * b + 1) (ι w)) := frP_trans fr1 (frP_trans (frP_M (frL_M d4)) (frP_4 _ _ _))
        obtain ⟨k1, k2⟩ := r_style P3 rfl
        rw [e1, Option.bind_some, c_style e5 e3, Option.bind_some]
        generalize hs3 : Skp B m (Tk B m s2) = s3 at *
        cases hsy : sy B m s3 with
        | none =>
          obtain ⟨υ3, q1, q2, q3⟩ := k2 hsy
          rw [if_pos (show oi none = (-1 : Int32) from rfl), q1, Option.bind_some]
          obtain ⟨ω, r1, r2, r3⟩ := bad_T3 (b := b) (v := (μ, υ3)) q2
          rw [r1]
          exact out_no (s' := s3) f3 (frP_trans fr2 (frP_trans (frP_M q3) r3)) (by omega) e3.2.2.1 r2
        | some i =>
          have hi := sy_lt hsy
          obtain ⟨υ3, q1, q2, q3⟩ := k1 i hsy
          rw [if_neg (oi_pos rfl (by omega)), q1, Option.bind_some]
          obtain ⟨x1', x2', x3', x4'⟩ := Tk_spec (B := B) y2
          obtain ⟨y1', y2', y3', y4'⟩ := Skp_spec (B := B) x2'
          obtain ⟨ρ4, l1, l2, l3, l4⟩ := c_nextT e5 e3
          have f4 : frQ σ ρ4 := frQ_trans f3 (frQ_1 l4)
          unfold lT3
          show Out B m σ τ s _ ((fX12_number (ι 1) (ι 999) (up υ3 4 (41 + 4 * b + 2) (ι i))).bind _)
          have P4 : RP B m (up υ3 4 (41 + 4 * b + 2) (ι i)) (Tk B m s3) := RP_4 q2
          have fr3 : frP τ (up υ3 4 (41 + 4 * b + 2) (ι i)) := frP_trans fr2 (frP_trans (frP_M (frL_M q3)) (frP_4 _ _ _))
          obtain ⟨z1, z2⟩ := r_num (z := ι 999) (x := 1) P4 rfl (by omega)
          rw [l1, Option.bind_some, l2.2.2.2.2]
          generalize hs4 : Skp B m (Tk B m s3) = s4 at *
          by_cases hok4 : ∃ t, nv B m s4 = some t ∧ 1 ≤ t ∧ t ≤ 999
          · obtain ⟨t, ht, ht1, ht2⟩ := hok4
            have tlt := nv_lt y2' ht
            obtain ⟨υ4, o1, o2, o3, o4⟩ := z1 t ht (by rw [ι_le (by omega) (by omega)]; exact ht1) (by rw [ι_le (by omega) (by omega)]; exact ht2)
            rw [o1, Option.bind_some, ht]
            show Out B m σ τ s ((fX11_isStart (ι t) ρ4).bind _) (some (up (up υ4 4 (41 + 4 * b + 3) (ι t)) 4 1 (up υ4 4 (41 + 4 * b + 3) (ι t) 4 1 + ι 1)))
            rw [c_start tlt, Option.bind_some, if_pos (show 1 ≤ t ∧ t ≤ 999 from ⟨ht1, ht2⟩), if_neg (by decide)]
            have E : ∀ j, υ4 4 j = if j = 41 + 4 * b + 2 then ι i else if j = 41 + 4 * b + 1 then ι w else if j = 41 + 4 * b then ι v else τ 4 j := fun j => by
              rw [o4 4 j (by omega)]
              by_cases c2 : j = 41 + 4 * b + 2
              · rw [if_pos c2, c2, up_e]
              · rw [if_neg c2, up_j _ _ _ _ _ c2, q3 4 j (by omega)]
                by_cases c1 : j = 41 + 4 * b + 1
                · rw [if_pos c1, c1, up_e]
                · rw [if_neg c1, up_j _ _ _ _ _ c1, d4 4 j (by omega)]
                  by_cases c0 : j = 41 + 4 * b
                  · rw [if_pos c0, c0, up_e]
                  · rw [if_neg c0, up_j _ _ _ _ _ c0, b4 4 j (by omega)]
            have fr4 : frP τ υ4 := frP_trans fr3 (frP_M (frL_M o4))
            have E2 : υ4 2 = τ 2 := funext fun j => by
              rw [o4 2 j (by omega), up_k _ _ _ _ _ (by omega), q3 2 j (by omega), up_k _ _ _ _ _ (by omega), d4 2 j (by omega), up_k _ _ _ _ _ (by omega), b4 2 j (by omega)]
            have E04 : υ4 0 4 = τ 0 4 := by
              rw [o4 0 4 (by omega), up_k _ _ _ _ _ (by omega), q3 0 4 (by omega), up_k _ _ _ _ _ (by omega), d4 0 4 (by omega), up_k _ _ _ _ _ (by omega), b4 0 4 (by omega)]
            have E1 : up υ4 4 (41 + 4 * b + 3) (ι t) 4 1 = ι b := by
              rw [up_j _ _ _ _ _ (by omega), E 1, if_neg (by omega), if_neg (by omega), if_neg (by omega)]; exact h41
            rw [E1, ι_add]
            have hD4 : DR ρ4 τ k n a b := DR_c hD (fun j h1 h2 => by rw [l4 j (by omega), e6 j (by omega), c4 j (by omega), a4 j (by omega)]) rfl rfl rfl
            obtain ⟨ρ5, m1, m2, m3⟩ := range_DR (υ := up (up υ4 4 (41 + 4 * b + 3) (ι t)) 4 1 (ι (b + 1))) hD4 hb' hvw hwn hi ht1 ht2 (by rw [up_k _ _ _ _ _ (by omega), up_k _ _ _ _ _ (by omega)]; exact E2) (by rw [up_k _ _ _ _ _ (by omega), up_k _ _ _ _ _ (by omega)]; exact E04) (by rw [up_j _ _ _ _ _ (by omega), up_j _ _ _ _ _ (by omega), E, if_neg (by omega), if_neg (by omega), if_pos rfl]) (by rw [up_j _ _ _ _ _ (by omega), up_j _ _ _ _ _ (by omega), E, if_neg (by omega), if_pos rfl]) (by rw [up_j _ _ _ _ _ (by omega), up_j _ _ _ _ _ (by omega), E, if_pos rfl]) (by rw [up_j _ _ _ _ _ (by omega), up_e]) (up_e _ _ _ _) (fun l g1 g2 => by rw [up_j _ _ _ _ _ g1, up_j _ _ _ _ _ (by omega), E, if_neg (by omega), if_neg (by omega), if_neg (by omega)])
            have m1 : fX1_add 14 (oi (some v)) (oi (some w)) (oi (some i)) (oi (some t)) ρ4 = some ρ5 := m1
            rw [m1, Option.bind_some]
            obtain ⟨ρ6, n1, n2, n3, n4⟩ := c_nextT (frQ_BC (frQ_3 m3) l3) (CT_c l2 (m3 1 (by omega)))
            rw [n1, Option.bind_some]
            have hw' := Tk_spec (B := B) y2'
            have hx' := Skp_spec (B := B) hw'.2.1
            refine out_yes (frQ_trans f4 (frQ_trans (frQ_3 m3) (frQ_1 n4))) (frP_trans fr4 (frP_trans (frP_4 _ _ _) (frP_4 _ _ _))) hk1 (DR_c m2 (fun j h1 h2 => n4 j (by omega)) rfl rfl rfl) n2 (RP_4 (RP_4 o2)) rfl (by omega)
          · have hno4 : ∀ t, nv B m s4 = some t → ¬ (1 ≤ t ∧ t ≤ 999) := fun t ht z => hok4 ⟨t, ht, z.1, z.2⟩
            obtain ⟨υ4, p', o1, o2, o3, o4, o5⟩ := z2 (fun t ht z => by
              have tlt := nv_lt y2' ht
              rw [ι_le (by omega) (by omega), ι_le (by omega) (by omega)] at z
              exact hno4 t ht z)
            rw [o1, Option.bind_some, c_startN y2' hno4, Option.bind_some, if_pos (show ι 0 = (0 : Int32) from rfl)]
            refine out_no (s' := s4) f4 (frP_trans fr3 (frP_trans (frP_M o5) (frP_trans (frP_4 _ _ _) (frP_4 _ _ _)))) (by omega) l2.2.2.1 ?_
            rw [up_k _ _ _ _ _ (by omega), up_k _ _ _ _ _ (by omega)]; exact o2
      · have hno2 : ∀ w, nv B m s2 = some w → ¬ (v ≤ w ∧ w < n) := fun w hw z => hok2 ⟨w, hw, z.1, z.2⟩
        obtain ⟨υ2, d1, d2, d3⟩ := j2 hno2
        rw [d1, Option.bind_some]
        obtain ⟨ω, q1, q2, q3⟩ := bad_T2 (b := b) (v := (ι v, υ2)) d2
        rw [q1]
        have hend := out_no (B := B) (m := m) (σ := σ) (τ := τ) (s := s) (s' := s2) f2 (frP_trans fr1 (frP_trans (frP_M d3) q3)) (by omega) c2.2.2.1 q2
        cases hw : nv B m s2 with
        | none =>
          show Out B m σ τ s ((fX10_hasLeaf 3 μ ρ2).bind _) _
          rw [c_hasLeaf_neg (by decide), Option.bind_some, if_pos (show ι 0 = (0 : Int32) from rfl)]
          exact hend
        | some w =>
          have wlt := nv_lt uu2 hw
          have vl := nv_lt u2 hv
          show Out B m σ τ s ((fX10_hasLeaf 3 (ι w) ρ2).bind _) _
          rw [c_hasLeaf hn V2 (by omega), Option.bind_some]
          by_cases hwn : w < n
          · rw [if_pos hwn, if_neg (by decide), if_neg (show ¬ oi (some v) ≤ oi (some w) from (by rw [show oi (some v) = ι v from rfl, show oi (some w) = ι w from rfl, ι_le (by omega) (by omega)]; exact fun z => hno2 w hw ⟨z, hwn⟩))]
            exact hend
          · rw [if_neg hwn, if_pos (show ι 0 = (0 : Int32) from rfl)]
            exact hend
    · have hno : ∀ v, nv B m s1 = some v → ¬ (0 ≤ v ∧ v < n) := fun v hv z => hok ⟨v, hv, z.2⟩
      obtain ⟨υ, b1, b2, b3⟩ := g2 hno
      rw [c_hlN u2 hn V1 (fun v hv z => hok ⟨v, hv, z⟩), b1, Option.bind_some, Option.bind_some, if_pos (show ι 0 = (0 : Int32) from rfl)]
      obtain ⟨ω, q1, q2, q3⟩ := bad_T1 (b := b) (v := (ι 0, υ)) b2 (k := k) (n := n) (by rw [show υ 2 = τ 2 from funext fun j => b3 2 j (by omega)]; exact hQ) ((b3 0 4 (by omega)).trans hD.2.1)
      rw [q1]
      exact out_no (s' := s1) f1 (frP_trans (frP_M b3) q3) (by omega) a2.2.2.1 q2
