/-! PURE PART: changes, the second half -/
def ScV (n a : Nat) (x1 x2 x3 : Int32) : Prop :=
  (x1 = ι 0 ∧ ∃ x y, x < n ∧ y < 2 ∧ x2 = ι x ∧ x3 = ι y) ∨
  (x1 = ι 1 ∧ ∃ x y : Option Nat, x2 = oi x ∧ x3 = oi y ∧ (∀ i, x = some i → i < n) ∧ (∀ i, y = some i → i < n) ∧ (∀ i j, x = some i → y = some j → i < j)) ∨
  (x1 = ι 2 ∧ ∃ x y, x < a ∧ y < 2 ∧ x2 = ι x ∧ x3 = ι y)
theorem ScI_V {n a c : Nat} {F : Nat → Int32} : ScI n a F c = ScV n a (F (89 + 3 * c)) (F (89 + 3 * c + 1)) (F (89 + 3 * c + 2)) := rfl
theorem ScI_mono {n a c : Nat} {F : Nat → Int32} (h : ScI n a F c) : ScI n (a + 1) F c := by
  rcases h with h | h | ⟨h1, x, y, h2, h3, h4⟩
  · exact Or.inl h
  · exact Or.inr (Or.inl h)
  · exact Or.inr (Or.inr ⟨h1, x, y, by omega, h3, h4⟩)
theorem slip_RO {ρ υ : Mem} {k n a b d t i s w : Nat} (h : RO ρ υ k n a b d t) (ha : a < 12) (hi : i < n) (hs : s < 2) (hw : w = 1 ∨ w = 2) : RO (up (up (up (up ρ 48 a (ι i)) 50 a (ι s)) 52 a (ι w)) 42 7 (ι (a + 1))) (up (up (up (up υ 3 (5 + 3 * a) (ι i)) 3 (5 + 3 * a + 1) (ι s)) 3 (5 + 3 * a + 2) (ι w)) 3 0 (ι (a + 1))) k n (a + 1) b d t := by
  obtain ⟨hr, hF, hV, hL, hC, hW⟩ := h
  have hn := hr.1.2.2.2.2
  obtain ⟨f1, f2, f3, f4, f5, f6, f7, f8, f9, f10, f11, f12⟩ := hF
  have eF : ∀ j, j ≠ 0 → j ≠ 5 + 3 * a → j ≠ 5 + 3 * a + 1 → j ≠ 5 + 3 * a + 2 → (up (up (up (up υ 3 (5 + 3 * a) (ι i)) 3 (5 + 3 * a + 1) (ι s)) 3 (5 + 3 * a + 2) (ι w)) 3 0 (ι (a + 1))) 3 j = υ 3 j := fun j h1 h2 h3 h4 => by
    simp (disch := omega) only [up_e, up_j, up_k, Nat.reduceAdd, Nat.add_zero]
  have g0 : (up (up (up (up υ 3 (5 + 3 * a) (ι i)) 3 (5 + 3 * a + 1) (ι s)) 3 (5 + 3 * a + 2) (ι w)) 3 0 (ι (a + 1))) 3 (5 + 3 * a) = ι i := by simp (disch := omega) only [up_e, up_j, up_k, Nat.reduceAdd, Nat.add_zero]
  have g1 : (up (up (up (up υ 3 (5 + 3 * a) (ι i)) 3 (5 + 3 * a + 1) (ι s)) 3 (5 + 3 * a + 2) (ι w)) 3 0 (ι (a + 1))) 3 (5 + 3 * a + 1) = ι s := by simp (disch := omega) only [up_e, up_j, up_k, Nat.reduceAdd, Nat.add_zero]
  have g2 : (up (up (up (up υ 3 (5 + 3 * a) (ι i)) 3 (5 + 3 * a + 1) (ι s)) 3 (5 + 3 * a + 2) (ι w)) 3 0 (ι (a + 1))) 3 (5 + 3 * a + 2) = ι w := by simp (disch := omega) only [up_e, up_j, up_k, Nat.reduceAdd, Nat.add_zero]
  have eM : ∀ j, j ≠ 42 → j ≠ 48 → j ≠ 50 → j ≠ 52 → (up (up (up (up ρ 48 a (ι i)) 50 a (ι s)) 52 a (ι w)) 42 7 (ι (a + 1))) j = ρ j := fun j h1 h2 h3 h4 => by
    simp (disch := omega) only [up_e, up_j, up_k, Nat.reduceAdd, Nat.add_zero]
  refine ⟨Rest_up hr (fun j hj => eM j (by omega) (by omega) (by omega) (by omega)) (fun k j hk => by simp (disch := omega) only [up_e, up_j, up_k, Nat.reduceAdd, Nat.add_zero]), ⟨?_, by omega, fun s' hs' => ?_, ?_, f5, fun s hs => RgI_e (by omega) (f6 s hs) (fun j h1 h2 => eF j (by omega) (by omega) (by omega) (by omega)), ?_, f8, fun s hs => ScI_mono (ScI_e (by omega) (f9 s hs) (fun j h1 h2 => eF j (by omega) (by omega) (by omega) (by omega))), ?_, f11, fun j hj => ?_⟩, ?_, ?_, ?_, ?_⟩
  · exact up_e _ _ _ _
  · by_cases h : s' = a
    · subst h
      unfold SlI
      rw [g0, g1, g2]
      exact ⟨Or.inr ⟨i, s, hi, hs, rfl, rfl⟩, by rcases hw with z | z <;> subst z; exact Or.inl rfl; exact Or.inr rfl⟩
    · have := f3 s' (by omega)
      unfold SlI at *
      rw [eF _ (by omega) (by omega) (by omega) (by omega), eF _ (by omega) (by omega) (by omega) (by omega), eF _ (by omega) (by omega) (by omega) (by omega)]
      exact this
  · rw [eF 1 (by omega) (by omega) (by omega) (by omega)]; exact f4
  · rw [eF 2 (by omega) (by omega) (by omega) (by omega)]; exact f7
  · rw [eF 4 (by omega) (by omega) (by omega) (by omega)]; exact f10
  · rw [eF _ (by omega) (by omega) (by omega) (by omega)]; exact f12 j hj
  · obtain ⟨h0, h1, h2, h3, h4, h5, h6, h7, h8⟩ := hV
    refine ⟨h0, ?_, ?_, ?_, fun j hj => ?_, fun j hj => ?_, fun j hj => ?_, fun j hj => ?_, fun j hj => ?_⟩
    · simp (disch := omega) only [up_e, up_j, up_k, Nat.reduceAdd, Nat.add_zero]; exact h1
    · simp (disch := omega) only [up_e, up_j, up_k, Nat.reduceAdd, Nat.add_zero]; exact h2
    · simp (disch := omega) only [up_e, up_j, up_k, Nat.reduceAdd, Nat.add_zero]
    · rw [eM _ (by omega) (by omega) (by omega) (by omega), up3_1, up3_1, up3_1, up3_1]; exact h4 j hj
    · rw [eM _ (by omega) (by omega) (by omega) (by omega), eF _ (by omega) (by omega) (by omega) (by omega)]; exact h5 j hj
    · by_cases h : j = a
      · subst h; rw [g0]; simp (disch := omega) only [up_e, up_j, up_k, Nat.reduceAdd, Nat.add_zero]
      · rw [eF _ (by omega) (by omega) (by omega) (by omega), ← h6 j (by omega)]; simp (disch := omega) only [up_e, up_j, up_k, Nat.reduceAdd, Nat.add_zero]
    · by_cases h : j = a
      · subst h; rw [g1]; simp (disch := omega) only [up_e, up_j, up_k, Nat.reduceAdd, Nat.add_zero]
      · rw [eF _ (by omega) (by omega) (by omega) (by omega), ← h7 j (by omega)]; simp (disch := omega) only [up_e, up_j, up_k, Nat.reduceAdd, Nat.add_zero]
    · by_cases h : j = a
      · subst h; rw [g2]; simp (disch := omega) only [up_e, up_j, up_k, Nat.reduceAdd, Nat.add_zero]
      · rw [eF _ (by omega) (by omega) (by omega) (by omega), ← h8 j (by omega)]; simp (disch := omega) only [up_e, up_j, up_k, Nat.reduceAdd, Nat.add_zero]
  · exact LR_e f5 hL (fun j hj => eM _ (by omega) (by omega) (by omega) (by omega)) (fun j h1 h2 => eF j (by omega) (by omega) (by omega) (by omega))
  · exact CR_e f8 hC (fun j hj => eM _ (by omega) (by omega) (by omega) (by omega)) (fun j h1 h2 => eF j (by omega) (by omega) (by omega) (by omega))
  · exact WR_e f11 hW (fun j hj => eM _ (by omega) (by omega) (by omega) (by omega)) (eF 3 (by omega) (by omega) (by omega) (by omega)) (fun j h1 h2 => eF j (by omega) (by omega) (by omega) (by omega))
theorem loose_RO {ρ υ : Mem} {k n a b d t i : Nat} (h : RO ρ υ k n a b d t) (hi : i < a) : RO (up (up ρ 48 i μ) 50 i μ) (up (up υ 3 (5 + 3 * i) μ) 3 (5 + 3 * i + 1) μ) k n a b d t := by
  obtain ⟨hr, hF, hV, hL, hC, hW⟩ := h
  have hn := hr.1.2.2.2.2
  obtain ⟨f1, f2, f3, f4, f5, f6, f7, f8, f9, f10, f11, f12⟩ := hF
  have eF : ∀ j, j ≠ 5 + 3 * i → j ≠ 5 + 3 * i + 1 → (up (up υ 3 (5 + 3 * i) μ) 3 (5 + 3 * i + 1) μ) 3 j = υ 3 j := fun j h1 h2 => by
    simp (disch := omega) only [up_e, up_j, up_k, Nat.reduceAdd, Nat.add_zero]
  have g0 : (up (up υ 3 (5 + 3 * i) μ) 3 (5 + 3 * i + 1) μ) 3 (5 + 3 * i) = μ := by simp (disch := omega) only [up_e, up_j, up_k, Nat.reduceAdd, Nat.add_zero]
  have g1 : (up (up υ 3 (5 + 3 * i) μ) 3 (5 + 3 * i + 1) μ) 3 (5 + 3 * i + 1) = μ := by simp (disch := omega) only [up_e, up_j, up_k, Nat.reduceAdd, Nat.add_zero]
  have eM : ∀ j, j ≠ 48 → j ≠ 50 → (up (up ρ 48 i μ) 50 i μ) j = ρ j := fun j h1 h2 => by
    simp (disch := omega) only [up_e, up_j, up_k, Nat.reduceAdd, Nat.add_zero]
  refine ⟨Rest_up hr (fun j hj => eM j (by omega) (by omega)) (fun k j hk => by simp (disch := omega) only [up_e, up_j, up_k, Nat.reduceAdd, Nat.add_zero]), ⟨?_, by omega, fun s' hs' => ?_, ?_, f5, fun s hs => RgI_e (by omega) (f6 s hs) (fun j h1 h2 => eF j (by omega) (by omega)), ?_, f8, fun s hs => (ScI_e (by omega) (f9 s hs) (fun j h1 h2 => eF j (by omega) (by omega))), ?_, f11, fun j hj => ?_⟩, ?_, ?_, ?_, ?_⟩
  · rw [eF 0 (by omega) (by omega)]; exact f1
  · have := f3 s' hs'
    by_cases h : s' = i
    · subst h
      unfold SlI at *
      rw [g0, g1, eF _ (by omega) (by omega)]
      exact ⟨Or.inl ⟨rfl, rfl⟩, this.2⟩
    · unfold SlI at *
      rw [eF _ (by omega) (by omega), eF _ (by omega) (by omega), eF _ (by omega) (by omega)]
      exact this
  · rw [eF 1 (by omega) (by omega)]; exact f4
  · rw [eF 2 (by omega) (by omega)]; exact f7
  · rw [eF 4 (by omega) (by omega)]; exact f10
  · rw [eF _ (by omega) (by omega)]; exact f12 j hj
  · obtain ⟨h0, h1, h2, h3, h4, h5, h6, h7, h8⟩ := hV
    refine ⟨h0, ?_, ?_, ?_, fun j hj => ?_, fun j hj => ?_, fun j hj => ?_, fun j hj => ?_, fun j hj => ?_⟩
    · rw [eM _ (by omega) (by omega)]; exact h1
    · rw [eM _ (by omega) (by omega)]; exact h2
    · rw [eM _ (by omega) (by omega)]; exact h3
    · rw [eM _ (by omega) (by omega), up3_1, up3_1]; exact h4 j hj
    · rw [eM _ (by omega) (by omega), eF _ (by omega) (by omega)]; exact h5 j hj
    · by_cases h : j = i
      · subst h; rw [g0]; simp (disch := omega) only [up_e, up_j, up_k, Nat.reduceAdd, Nat.add_zero]
      · rw [eF _ (by omega) (by omega), ← h6 j (by omega)]; simp (disch := omega) only [up_e, up_j, up_k, Nat.reduceAdd, Nat.add_zero]
    · by_cases h : j = i
      · subst h; rw [g1]; simp (disch := omega) only [up_e, up_j, up_k, Nat.reduceAdd, Nat.add_zero]
      · rw [eF _ (by omega) (by omega), ← h7 j (by omega)]; simp (disch := omega) only [up_e, up_j, up_k, Nat.reduceAdd, Nat.add_zero]
    · rw [eM _ (by omega) (by omega), eF _ (by omega) (by omega)]; exact h8 j hj
  · exact LR_e f5 hL (fun j hj => eM _ (by omega) (by omega)) (fun j h1 h2 => eF j (by omega) (by omega))
  · exact CR_e f8 hC (fun j hj => eM _ (by omega) (by omega)) (fun j h1 h2 => eF j (by omega) (by omega))
  · exact WR_e f11 hW (fun j hj => eM _ (by omega) (by omega)) (eF 3 (by omega) (by omega)) (fun j h1 h2 => eF j (by omega) (by omega))
theorem range_RO {ρ υ : Mem} {k n a b d t i j s x : Nat} (h : RO ρ υ k n a b d t) (hb : b < 12) (hi : i ≤ j) (hj : j < n) (hs : s < 4) (hx : 1 ≤ x) (hx' : x ≤ 999) : RO (up (up (up (up (up ρ 55 b (ι i)) 57 b (ι j)) 59 b (ι s)) 61 b (ι x)) 53 4 (ι (b + 1))) (up (up (up (up (up υ 3 (41 + 4 * b) (ι i)) 3 (41 + 4 * b + 1) (ι j)) 3 (41 + 4 * b + 2) (ι s)) 3 (41 + 4 * b + 3) (ι x)) 3 1 (ι (b + 1))) k n a (b + 1) d t := by
  obtain ⟨hr, hF, hV, hL, hC, hW⟩ := h
  have hn := hr.1.2.2.2.2
  obtain ⟨f1, f2, f3, f4, f5, f6, f7, f8, f9, f10, f11, f12⟩ := hF
  generalize hω : (up (up (up (up (up υ 3 (41 + 4 * b) (ι i)) 3 (41 + 4 * b + 1) (ι j)) 3 (41 + 4 * b + 2) (ι s)) 3 (41 + 4 * b + 3) (ι x)) 3 1 (ι (b + 1))) = ω
  have eF : ∀ l, l ≠ 1 → (l < 41 + 4 * b ∨ 41 + 4 * b + 3 < l) → ω 3 l = υ 3 l := fun l h1 h2 => by
    subst hω; simp (disch := omega) only [up_e, up_j, up_k, Nat.reduceAdd, Nat.add_zero]
  have g0 : ω 3 (41 + 4 * b) = ι i := by subst hω; simp (disch := omega) only [up_e, up_j, up_k, Nat.reduceAdd, Nat.add_zero]
  have g1 : ω 3 (41 + 4 * b + 1) = ι j := by subst hω; simp (disch := omega) only [up_e, up_j, up_k, Nat.reduceAdd, Nat.add_zero]
  have g2 : ω 3 (41 + 4 * b + 2) = ι s := by subst hω; simp (disch := omega) only [up_e, up_j, up_k, Nat.reduceAdd, Nat.add_zero]
  have g3 : ω 3 (41 + 4 * b + 3) = ι x := by subst hω; simp (disch := omega) only [up_e, up_j, up_k, Nat.reduceAdd, Nat.add_zero]
  have g4 : ω 3 1 = ι (b + 1) := by subst hω; exact up_e _ _ _ _
  have g5 : ω 1 = υ 1 := by subst hω; rw [up3_1, up3_1, up3_1, up3_1, up3_1]
  have g6 : ∀ k j, k ≠ 3 → ω k j = υ k j := fun k j hk => by subst hω; simp (disch := omega) only [up_e, up_j, up_k, Nat.reduceAdd, Nat.add_zero]
  clear hω
  have eM : ∀ l, (l < 53 ∨ 62 ≤ l) → (up (up (up (up (up ρ 55 b (ι i)) 57 b (ι j)) 59 b (ι s)) 61 b (ι x)) 53 4 (ι (b + 1))) l = ρ l := fun l h1 => by
    simp (disch := omega) only [up_e, up_j, up_k, Nat.reduceAdd, Nat.add_zero]
  refine ⟨Rest_up hr (fun j hj => eM j (by omega)) g6, ⟨?_, f2, fun s hs => SlI_e (by omega) (f3 s hs) (fun j h1 h2 => eF j (by omega) (by omega)), g4, by omega, fun s' hs' => ?_, ?_, f8, fun s hs => (ScI_e (by omega) (f9 s hs) (fun j h1 h2 => eF j (by omega) (by omega))), ?_, f11, fun j hj => ?_⟩, ?_, ?_, ?_, ?_⟩
  · rw [eF 0 (by omega) (by omega)]; exact f1
  · by_cases h : s' = b
    · subst h
      exact ⟨i, j, s, x, hi, hj, hs, hx, hx', g0, g1, g2, g3⟩
    · have := f6 s' (by omega)
      unfold RgI at *
      rw [eF _ (by omega) (by omega), eF _ (by omega) (by omega), eF _ (by omega) (by omega), eF _ (by omega) (by omega)]
      exact this
  · rw [eF 2 (by omega) (by omega)]; exact f7
  · rw [eF 4 (by omega) (by omega)]; exact f10
  · rw [eF _ (by omega) (by omega)]; exact f12 j hj
  · rw [g5]; exact VR_e hn f2 hV (fun j hj => eM _ (by omega)) (fun j h1 h2 => eF j (by omega) (by omega)) (fun j h1 h2 => eF j (by omega) (by omega))
  · obtain ⟨h0, h1, h2, h3, h4, h5⟩ := hL
    refine ⟨h0, ?_, fun l hl => ?_, fun l hl => ?_, fun l hl => ?_, fun l hl => ?_⟩
    · simp (disch := omega) only [up_e, up_j, up_k, Nat.reduceAdd, Nat.add_zero]
    · by_cases h : l = b
      · subst h; rw [g0]; simp (disch := omega) only [up_e, up_j, up_k, Nat.reduceAdd, Nat.add_zero]
      · rw [eF _ (by omega) (by omega), ← h2 l (by omega)]; simp (disch := omega) only [up_e, up_j, up_k, Nat.reduceAdd, Nat.add_zero]
    · by_cases h : l = b
      · subst h; rw [g1]; simp (disch := omega) only [up_e, up_j, up_k, Nat.reduceAdd, Nat.add_zero]
      · rw [eF _ (by omega) (by omega), ← h3 l (by omega)]; simp (disch := omega) only [up_e, up_j, up_k, Nat.reduceAdd, Nat.add_zero]
    · by_cases h : l = b
      · subst h; rw [g2]; simp (disch := omega) only [up_e, up_j, up_k, Nat.reduceAdd, Nat.add_zero]
      · rw [eF _ (by omega) (by omega), ← h4 l (by omega)]; simp (disch := omega) only [up_e, up_j, up_k, Nat.reduceAdd, Nat.add_zero]
    · by_cases h : l = b
      · subst h; rw [g3]; simp (disch := omega) only [up_e, up_j, up_k, Nat.reduceAdd, Nat.add_zero]
      · rw [eF _ (by omega) (by omega), ← h5 l (by omega)]; simp (disch := omega) only [up_e, up_j, up_k, Nat.reduceAdd, Nat.add_zero]
  · exact CR_e f8 hC (fun j hj => eM _ (by omega)) (fun j h1 h2 => eF j (by omega) (by omega))
  · exact WR_e f11 hW (fun j hj => eM _ (by omega)) (eF 3 (by omega) (by omega)) (fun j h1 h2 => eF j (by omega) (by omega))
theorem scan_RO {ρ υ : Mem} {k n a b d t : Nat} {x1 x2 x3 : Int32} (h : RO ρ υ k n a b d t) (hd : d < 60) (hs : ScV n a x1 x2 x3) : RO (up (up (up (up ρ 64 d x1) 66 d x2) 68 d x3) 62 3 (ι (d + 1))) (up (up (up (up υ 3 (89 + 3 * d) x1) 3 (89 + 3 * d + 1) x2) 3 (89 + 3 * d + 2) x3) 3 2 (ι (d + 1))) k n a b (d + 1) t := by
  obtain ⟨hr, hF, hV, hL, hC, hW⟩ := h
  have hn := hr.1.2.2.2.2
  obtain ⟨f1, f2, f3, f4, f5, f6, f7, f8, f9, f10, f11, f12⟩ := hF
  generalize hω : (up (up (up (up υ 3 (89 + 3 * d) x1) 3 (89 + 3 * d + 1) x2) 3 (89 + 3 * d + 2) x3) 3 2 (ι (d + 1))) = ω
  have eF : ∀ l, l ≠ 2 → (l < 89 + 3 * d ∨ 89 + 3 * d + 2 < l) → ω 3 l = υ 3 l := fun l h1 h2 => by
    subst hω; simp (disch := omega) only [up_e, up_j, up_k, Nat.reduceAdd, Nat.add_zero]
  have g0 : ω 3 (89 + 3 * d) = x1 := by subst hω; simp (disch := omega) only [up_e, up_j, up_k, Nat.reduceAdd, Nat.add_zero]
  have g1 : ω 3 (89 + 3 * d + 1) = x2 := by subst hω; simp (disch := omega) only [up_e, up_j, up_k, Nat.reduceAdd, Nat.add_zero]
  have g2 : ω 3 (89 + 3 * d + 2) = x3 := by subst hω; simp (disch := omega) only [up_e, up_j, up_k, Nat.reduceAdd, Nat.add_zero]
  have g4 : ω 3 2 = ι (d + 1) := by subst hω; exact up_e _ _ _ _
  have g5 : ω 1 = υ 1 := by subst hω; rw [up3_1, up3_1, up3_1, up3_1]
  have g6 : ∀ k j, k ≠ 3 → ω k j = υ k j := fun k j hk => by subst hω; simp (disch := omega) only [up_e, up_j, up_k, Nat.reduceAdd, Nat.add_zero]
  clear hω
  have eM : ∀ l, (l < 62 ∨ 69 ≤ l) → (up (up (up (up ρ 64 d x1) 66 d x2) 68 d x3) 62 3 (ι (d + 1))) l = ρ l := fun l h1 => by
    simp (disch := omega) only [up_e, up_j, up_k, Nat.reduceAdd, Nat.add_zero]
  refine ⟨Rest_up hr (fun j hj => eM j (by omega)) g6, ⟨?_, f2, fun s hs => SlI_e (by omega) (f3 s hs) (fun j h1 h2 => eF j (by omega) (by omega)), ?_, f5, fun s hs => RgI_e (by omega) (f6 s hs) (fun j h1 h2 => eF j (by omega) (by omega)), g4, by omega, fun s' hs' => ?_, ?_, f11, fun j hj => ?_⟩, ?_, ?_, ?_, ?_⟩
  · rw [eF 0 (by omega) (by omega)]; exact f1
  · rw [eF 1 (by omega) (by omega)]; exact f4
  · rw [ScI_V]
    by_cases h : s' = d
    · subst h
      rw [g0, g1, g2]; exact hs
    · have := f9 s' (by omega)
      rw [ScI_V] at this
      rw [eF _ (by omega) (by omega), eF _ (by omega) (by omega), eF _ (by omega) (by omega)]
      exact this
  · rw [eF 4 (by omega) (by omega)]; exact f10
  · rw [eF _ (by omega) (by omega)]; exact f12 j hj
  · rw [g5]; exact VR_e hn f2 hV (fun j hj => eM _ (by omega)) (fun j h1 h2 => eF j (by omega) (by omega)) (fun j h1 h2 => eF j (by omega) (by omega))
  · exact LR_e f5 hL (fun j hj => eM _ (by omega)) (fun j h1 h2 => eF j (by omega) (by omega))
  · obtain ⟨h0, h1, h2, h3, h4⟩ := hC
    refine ⟨h0, ?_, fun l hl => ?_, fun l hl => ?_, fun l hl => ?_⟩
    · simp (disch := omega) only [up_e, up_j, up_k, Nat.reduceAdd, Nat.add_zero]
    · by_cases h : l = d
      · subst h; rw [g0]; simp (disch := omega) only [up_e, up_j, up_k, Nat.reduceAdd, Nat.add_zero]
      · rw [eF _ (by omega) (by omega), ← h2 l (by omega)]; simp (disch := omega) only [up_e, up_j, up_k, Nat.reduceAdd, Nat.add_zero]
    · by_cases h : l = d
      · subst h; rw [g1]; simp (disch := omega) only [up_e, up_j, up_k, Nat.reduceAdd, Nat.add_zero]
      · rw [eF _ (by omega) (by omega), ← h3 l (by omega)]; simp (disch := omega) only [up_e, up_j, up_k, Nat.reduceAdd, Nat.add_zero]
    · by_cases h : l = d
      · subst h; rw [g2]; simp (disch := omega) only [up_e, up_j, up_k, Nat.reduceAdd, Nat.add_zero]
      · rw [eF _ (by omega) (by omega), ← h4 l (by omega)]; simp (disch := omega) only [up_e, up_j, up_k, Nat.reduceAdd, Nat.add_zero]
  · exact WR_e f11 hW (fun j hj => eM _ (by omega)) (eF 3 (by omega) (by omega)) (fun j h1 h2 => eF j (by omega) (by omega))
