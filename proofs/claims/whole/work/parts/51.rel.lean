/-! PURE PART: what joins the two memories -/
def nn (x : Int32) : Nat := x.toNatClampNeg
theorem nn_ι {a : Nat} (h : a < 2147483648) : nn (ι a) = a := ι_n h
def sm (q : Nat → Nat) : Nat → Nat → Nat
  | _, 0 => 0
  | i, m + 1 => q i + sm q (i + 1) m
theorem sm_last (q : Nat → Nat) : ∀ m i, sm q i (m + 1) = sm q i m + q (i + m)
  | 0, i => by simp [sm]
  | m + 1, i => by
    rw [sm, sm_last q m (i + 1), sm]
    have e : i + 1 + m = i + (m + 1) := by omega
    rw [e]; omega
theorem sm_congr {q r : Nat → Nat} : ∀ m i, (∀ k, i ≤ k → k < i + m → q k = r k) → sm q i m = sm r i m
  | 0, i, _ => rfl
  | m + 1, i, h => by rw [sm, sm, h i (by omega) (by omega), sm_congr m (i + 1) (fun k h1 h2 => h k (by omega) (by omega))]
def sx (b : Nat) : Int32 := (ι b).toInt8.toInt32
def qN (q : Nat → Int32) (i : Nat) : Nat := nn (q i)
def QI (q : Nat → Int32) (k n : Nat) : Prop := 1 ≤ k ∧ k ≤ 8 ∧ (∀ i, i < k → q i = ι (qN q i) ∧ 1 ≤ qN q i ∧ qN q i ≤ 12) ∧ sm (qN q) 0 k = n ∧ n ≤ 60
def SlI (n : Nat) (F : Nat → Int32) (s : Nat) : Prop := ((F (5 + 3 * s) = μ ∧ F (5 + 3 * s + 1) = μ) ∨ (∃ a b, a < n ∧ b < 2 ∧ F (5 + 3 * s) = ι a ∧ F (5 + 3 * s + 1) = ι b)) ∧ (F (5 + 3 * s + 2) = ι 1 ∨ F (5 + 3 * s + 2) = ι 2)
def RgI (n : Nat) (F : Nat → Int32) (r : Nat) : Prop := ∃ a b s x, a ≤ b ∧ b < n ∧ s < 4 ∧ 1 ≤ x ∧ x ≤ 999 ∧ F (41 + 4 * r) = ι a ∧ F (41 + 4 * r + 1) = ι b ∧ F (41 + 4 * r + 2) = ι s ∧ F (41 + 4 * r + 3) = ι x
def ScI (n a : Nat) (F : Nat → Int32) (c : Nat) : Prop :=
  (F (89 + 3 * c) = ι 0 ∧ ∃ x y, x < n ∧ y < 2 ∧ F (89 + 3 * c + 1) = ι x ∧ F (89 + 3 * c + 2) = ι y) ∨
  (F (89 + 3 * c) = ι 1 ∧ ∃ x y : Option Nat, F (89 + 3 * c + 1) = oi x ∧ F (89 + 3 * c + 2) = oi y ∧ (∀ i, x = some i → i < n) ∧ (∀ i, y = some i → i < n) ∧ (∀ i j, x = some i → y = some j → i < j)) ∨
  (F (89 + 3 * c) = ι 2 ∧ ∃ x y, x < a ∧ y < 2 ∧ F (89 + 3 * c + 1) = ι x ∧ F (89 + 3 * c + 2) = ι y)
def FI (n a b d t : Nat) (F : Nat → Int32) : Prop :=
  F 0 = ι a ∧ a ≤ 12 ∧ (∀ s, s < a → SlI n F s) ∧ F 1 = ι b ∧ b ≤ 12 ∧ (∀ r, r < b → RgI n F r) ∧ F 2 = ι d ∧ d ≤ 60 ∧ (∀ c, c < d → ScI n a F c) ∧ F 4 = ι t ∧ t ≤ 10 ∧ (∀ i, i < n → F (279 + i) = ι 0 ∨ F (279 + i) = ι 1)
def VR (σ : Mem) (v : Nat) (q : Nat → Int32) (k n a : Nat) (F : Nat → Int32) : Prop :=
  (ln (v + 1 + 1) = 8 ∧ ln (v + 3 + 1) = 60 ∧ ln (v + 5 + 1) = 12 ∧ ln (v + 7 + 1) = 12 ∧ ln (v + 9 + 1) = 12) ∧ σ v 5 = ι k ∧ σ v 6 = ι n ∧ σ v 7 = ι a ∧ (∀ i, i < k → σ (v + 1 + 1) i = q i) ∧ (∀ i, i < n → σ (v + 3 + 1) i = F (279 + i)) ∧
  (∀ i, i < a → σ (v + 5 + 1) i = F (5 + 3 * i)) ∧ (∀ i, i < a → σ (v + 7 + 1) i = F (5 + 3 * i + 1)) ∧ (∀ i, i < a → σ (v + 9 + 1) i = F (5 + 3 * i + 2))
def LR (σ : Mem) (v : Nat) (b : Nat) (F : Nat → Int32) : Prop :=
  (ln (v + 1 + 1) = 12 ∧ ln (v + 3 + 1) = 12 ∧ ln (v + 5 + 1) = 12 ∧ ln (v + 7 + 1) = 12) ∧ σ v 4 = ι b ∧
  (∀ i, i < b → σ (v + 1 + 1) i = F (41 + 4 * i)) ∧ (∀ i, i < b → σ (v + 3 + 1) i = F (41 + 4 * i + 1)) ∧ (∀ i, i < b → σ (v + 5 + 1) i = F (41 + 4 * i + 2)) ∧ (∀ i, i < b → σ (v + 7 + 1) i = F (41 + 4 * i + 3))
def CR (σ : Mem) (v : Nat) (d : Nat) (F : Nat → Int32) : Prop :=
  (ln (v + 1 + 1) = 60 ∧ ln (v + 3 + 1) = 60 ∧ ln (v + 5 + 1) = 60) ∧ σ v 3 = ι d ∧
  (∀ i, i < d → σ (v + 1 + 1) i = F (89 + 3 * i)) ∧ (∀ i, i < d → σ (v + 3 + 1) i = F (89 + 3 * i + 1)) ∧ (∀ i, i < d → σ (v + 5 + 1) i = F (89 + 3 * i + 2))
def WR (σ : Mem) (v : Nat) (t : Nat) (F : Nat → Int32) : Prop :=
  ln (v + 1 + 1) = 10 ∧ σ v 1 = ι t ∧ σ v 2 = F 3 ∧ (∀ i, i < t → σ (v + 1 + 1) i = F (269 + i))
def SR (σ : Mem) (s : Nat) (q : Nat → Int32) (k n a b d t : Nat) (F : Nat → Int32) : Prop :=
  VR σ (s + 1) q k n a F ∧ LR σ (s + 12) b F ∧ CR σ (s + 21) d F ∧ WR σ (s + 28) t F
def CS (σ : Mem) (s : Nat) (q : Nat → Int32) (k n : Nat) (F : Nat → Int32) : Prop := ∃ a b d t, FI n a b d t F ∧ SR σ s q k n a b d t F
def rgi (nx nh i : Nat) : Nat := 80 + (1 + 31 * ((nx + 8 - nh + i) % 8))
def Hs (σ τ : Mem) (k n : Nat) : Prop := ∃ nx nh, nx < 8 ∧ nh ≤ 8 ∧ σ 79 1 = ι nx ∧ σ 79 2 = ι nh ∧ τ 0 9 = ι nh ∧ ∀ i, i < nh → CS σ (rgi nx nh i) (τ 1) k n (fun j => τ 6 (339 * i + j))
def Sv (σ τ : Mem) (k n : Nat) : Prop := (σ 0 13 = ι 0 ∧ τ 0 10 = ι 0) ∨ (σ 0 13 = ι 1 ∧ τ 0 10 = ι 1 ∧ CS σ 329 (τ 1) k n (τ 5))
def IR (σ τ : Mem) : Prop := ∃ m, m ≤ 600 ∧ σ 33 1 = ι m ∧ τ 0 12 = ι m ∧ ∀ i, i < m → ∃ b, 1 ≤ b ∧ b < 256 ∧ σ 34 i = ι b ∧ τ 7 i = sx b
def FR (σ τ : Mem) : Prop := ∃ m, m ≤ 236 ∧ σ 35 1 = ι m ∧ τ 0 20 = ι m ∧ ∀ i, i < m → σ 36 i = τ 9 i
def Tx (σ : Mem) (o : Nat) : Prop := ∃ m, m ≤ 600 ∧ σ o 1 = ι m
def romL : List Nat := [1000, 900, 500, 400, 100, 90, 50, 40, 10, 9, 5, 4, 1]
def Ro (τ : Mem) : Prop := ∀ i, i < 13 → τ 11 i = ι (romL.getD i 0)
def Rest (σ τ : Mem) (k n : Nat) : Prop := QI (τ 1) k n ∧ τ 0 3 = ι k ∧ Hs σ τ k n ∧ Sv σ τ k n ∧ IR σ τ ∧ FR σ τ ∧ Tx σ 37 ∧ Tx σ 39 ∧ Ro τ
def Rel (σ τ : Mem) : Prop := ∃ k n, Rest σ τ k n ∧ CS σ 41 (τ 1) k n (τ 3)
theorem SlI_c {n s : Nat} {F G : Nat → Int32} (hs : s < 12) (h : SlI n F s) (e : ∀ j, j < 339 → G j = F j) : SlI n G s := by
  unfold SlI at *
  rw [e (5 + 3 * s) (by omega), e (5 + 3 * s + 1) (by omega), e (5 + 3 * s + 2) (by omega)]; exact h
theorem RgI_c {n s : Nat} {F G : Nat → Int32} (hs : s < 12) (h : RgI n F s) (e : ∀ j, j < 339 → G j = F j) : RgI n G s := by
  unfold RgI at *
  rw [e (41 + 4 * s) (by omega), e (41 + 4 * s + 1) (by omega), e (41 + 4 * s + 2) (by omega), e (41 + 4 * s + 3) (by omega)]; exact h
theorem ScI_c {n a s : Nat} {F G : Nat → Int32} (hs : s < 60) (h : ScI n a F s) (e : ∀ j, j < 339 → G j = F j) : ScI n a G s := by
  unfold ScI at *
  rw [e (89 + 3 * s) (by omega), e (89 + 3 * s + 1) (by omega), e (89 + 3 * s + 2) (by omega)]; exact h
theorem FI_c {n a b d t : Nat} {F G : Nat → Int32} (hn : n ≤ 60) (h : FI n a b d t F) (e : ∀ j, j < 339 → G j = F j) : FI n a b d t G := by
  obtain ⟨h1, h2, h3, h4, h5, h6, h7, h8, h9, h10, h11, h12⟩ := h
  refine ⟨by rw [e 0 (by omega)]; exact h1, h2, fun s hs => SlI_c (by omega) (h3 s hs) e, by rw [e 1 (by omega)]; exact h4, h5, fun s hs => RgI_c (by omega) (h6 s hs) e, by rw [e 2 (by omega)]; exact h7, h8, fun s hs => ScI_c (by omega) (h9 s hs) e, by rw [e 4 (by omega)]; exact h10, h11, fun i hi => ?_⟩
  rw [e (279 + i) (by omega)]; exact h12 i hi
theorem VR_c {σ ρ : Mem} {v k n a : Nat} {q F G : Nat → Int32} (hn : n ≤ 60) (ha : a ≤ 12) (h : VR σ v q k n a F) (hσ : ∀ j, j < 11 → ρ (v + j) = σ (v + j)) (e : ∀ j, j < 339 → G j = F j) : VR ρ v q k n a G := by
  obtain ⟨h0, h1, h2, h3, h4, h5, h6, h7, h8⟩ := h
  have e0 : ρ v = σ v := hσ 0 (by omega)
  refine ⟨h0, by rw [e0]; exact h1, by rw [e0]; exact h2, by rw [e0]; exact h3, fun i hi => ?_, fun i hi => ?_, fun i hi => ?_, fun i hi => ?_, fun i hi => ?_⟩
  · have := hσ 2 (by omega); rw [Nat.add_assoc, this]; exact h4 i hi
  · have := hσ 4 (by omega); rw [Nat.add_assoc, this, e _ (by omega)]; exact h5 i hi
  · have := hσ 6 (by omega); rw [Nat.add_assoc, this, e _ (by omega)]; exact h6 i hi
  · have := hσ 8 (by omega); rw [Nat.add_assoc, this, e _ (by omega)]; exact h7 i hi
  · have := hσ 10 (by omega); rw [Nat.add_assoc, this, e _ (by omega)]; exact h8 i hi
theorem LR_c {σ ρ : Mem} {v b : Nat} {F G : Nat → Int32} (hb : b ≤ 12) (h : LR σ v b F) (hσ : ∀ j, j < 9 → ρ (v + j) = σ (v + j)) (e : ∀ j, j < 339 → G j = F j) : LR ρ v b G := by
  obtain ⟨h0, h1, h2, h3, h4, h5⟩ := h
  have e0 : ρ v = σ v := hσ 0 (by omega)
  refine ⟨h0, by rw [e0]; exact h1, fun i hi => ?_, fun i hi => ?_, fun i hi => ?_, fun i hi => ?_⟩
  · have := hσ 2 (by omega); rw [Nat.add_assoc, this, e _ (by omega)]; exact h2 i hi
  · have := hσ 4 (by omega); rw [Nat.add_assoc, this, e _ (by omega)]; exact h3 i hi
  · have := hσ 6 (by omega); rw [Nat.add_assoc, this, e _ (by omega)]; exact h4 i hi
  · have := hσ 8 (by omega); rw [Nat.add_assoc, this, e _ (by omega)]; exact h5 i hi
theorem CR_c {σ ρ : Mem} {v d : Nat} {F G : Nat → Int32} (hd : d ≤ 60) (h : CR σ v d F) (hσ : ∀ j, j < 7 → ρ (v + j) = σ (v + j)) (e : ∀ j, j < 339 → G j = F j) : CR ρ v d G := by
  obtain ⟨h0, h1, h2, h3, h4⟩ := h
  have e0 : ρ v = σ v := hσ 0 (by omega)
  refine ⟨h0, by rw [e0]; exact h1, fun i hi => ?_, fun i hi => ?_, fun i hi => ?_⟩
  · have := hσ 2 (by omega); rw [Nat.add_assoc, this, e _ (by omega)]; exact h2 i hi
  · have := hσ 4 (by omega); rw [Nat.add_assoc, this, e _ (by omega)]; exact h3 i hi
  · have := hσ 6 (by omega); rw [Nat.add_assoc, this, e _ (by omega)]; exact h4 i hi
theorem WR_c {σ ρ : Mem} {v t : Nat} {F G : Nat → Int32} (ht : t ≤ 10) (h : WR σ v t F) (hσ : ∀ j, j < 3 → ρ (v + j) = σ (v + j)) (e : ∀ j, j < 339 → G j = F j) : WR ρ v t G := by
  obtain ⟨h0, h1, h2, h3⟩ := h
  have e0 : ρ v = σ v := hσ 0 (by omega)
  refine ⟨h0, by rw [e0]; exact h1, by rw [e0, e _ (by omega)]; exact h2, fun i hi => ?_⟩
  · have := hσ 2 (by omega); rw [Nat.add_assoc, this, e _ (by omega)]; exact h3 i hi
theorem SR_c {σ ρ : Mem} {s k n a b d t : Nat} {q F G : Nat → Int32} (hn : n ≤ 60) (hF : FI n a b d t F) (h : SR σ s q k n a b d t F) (hσ : ∀ j, s ≤ j → j < s + 31 → ρ j = σ j) (e : ∀ j, j < 339 → G j = F j) : SR ρ s q k n a b d t G := by
  obtain ⟨f1, f2, f3, f4, f5, f6, f7, f8, f9, f10, f11, f12⟩ := hF
  exact ⟨VR_c hn f2 h.1 (fun j hj => hσ _ (by omega) (by omega)) e, LR_c f5 h.2.1 (fun j hj => hσ _ (by omega) (by omega)) e, CR_c f8 h.2.2.1 (fun j hj => hσ _ (by omega) (by omega)) e, WR_c f11 h.2.2.2 (fun j hj => hσ _ (by omega) (by omega)) e⟩
theorem CS_c {σ ρ : Mem} {s k n : Nat} {q F G : Nat → Int32} (hn : n ≤ 60) (h : CS σ s q k n F) (hσ : ∀ j, s ≤ j → j < s + 31 → ρ j = σ j) (e : ∀ j, j < 339 → G j = F j) : CS ρ s q k n G := by
  obtain ⟨a, b, d, t, h1, h2⟩ := h
  exact ⟨a, b, d, t, FI_c hn h1 e, SR_c hn h1 h2 hσ e⟩
def RK (k : Nat) : Prop := k = 0 ∨ (33 ≤ k ∧ k ≤ 37) ∨ k = 39 ∨ (79 ≤ k ∧ k < 360)
def RT (k j : Nat) : Prop := k = 1 ∨ k = 5 ∨ k = 6 ∨ k = 7 ∨ k = 9 ∨ k = 11 ∨ (k = 0 ∧ (j = 3 ∨ j = 9 ∨ j = 10 ∨ j = 12 ∨ j = 20))
theorem rgi_in (nx nh i : Nat) : 81 ≤ rgi nx nh i ∧ rgi nx nh i + 31 ≤ 329 := by
  unfold rgi
  have : (nx + 8 - nh + i) % 8 < 8 := Nat.mod_lt _ (by omega)
  omega
theorem Rest_c {σ ρ τ υ : Mem} {k n : Nat} (h : Rest σ τ k n) (hσ : ∀ k, RK k → ρ k = σ k) (hτ : ∀ k j, RT k j → υ k j = τ k j) : Rest ρ υ k n := by
  obtain ⟨h1, h2, ⟨nx, nh, g1, g2, g3, g4, g5, g6⟩, h4, ⟨mi, i1, i2, i3, i4⟩, ⟨mf, f1, f2, f3, f4⟩, h7, h8, h9⟩ := h
  have hn : n ≤ 60 := h1.2.2.2.2
  have e1 : υ 1 = τ 1 := funext fun j => hτ 1 j (by simp [RT])
  have e6 : υ 6 = τ 6 := funext fun j => hτ 6 j (by simp [RT])
  have e5 : υ 5 = τ 5 := funext fun j => hτ 5 j (by simp [RT])
  have e7 : υ 7 = τ 7 := funext fun j => hτ 7 j (by simp [RT])
  have e9 : υ 9 = τ 9 := funext fun j => hτ 9 j (by simp [RT])
  have e11 : υ 11 = τ 11 := funext fun j => hτ 11 j (by simp [RT])
  have z3 : υ 0 3 = τ 0 3 := hτ 0 3 (by simp [RT])
  have z9 : υ 0 9 = τ 0 9 := hτ 0 9 (by simp [RT])
  have z10 : υ 0 10 = τ 0 10 := hτ 0 10 (by simp [RT])
  have z12 : υ 0 12 = τ 0 12 := hτ 0 12 (by simp [RT])
  have z20 : υ 0 20 = τ 0 20 := hτ 0 20 (by simp [RT])
  have s0 : ρ 0 = σ 0 := hσ 0 (by simp [RK])
  have s33 : ρ 33 = σ 33 := hσ 33 (by simp [RK])
  have s34 : ρ 34 = σ 34 := hσ 34 (by simp [RK])
  have s35 : ρ 35 = σ 35 := hσ 35 (by simp [RK])
  have s36 : ρ 36 = σ 36 := hσ 36 (by simp [RK])
  have s37 : ρ 37 = σ 37 := hσ 37 (by simp [RK])
  have s39 : ρ 39 = σ 39 := hσ 39 (by simp [RK])
  have s79 : ρ 79 = σ 79 := hσ 79 (by simp [RK])
  refine ⟨by rw [e1]; exact h1, by rw [z3]; exact h2, ⟨nx, nh, g1, g2, by rw [s79]; exact g3, by rw [s79]; exact g4, by rw [z9]; exact g5, fun i hi => ?_⟩, ?_, ⟨mi, i1, by rw [s33]; exact i2, by rw [z12]; exact i3, by rw [s34, e7]; exact i4⟩, ⟨mf, f1, by rw [s35]; exact f2, by rw [z20]; exact f3, by rw [s36, e9]; exact f4⟩, by unfold Tx; rw [s37]; exact h7, by unfold Tx; rw [s39]; exact h8, by unfold Ro; rw [e11]; exact h9⟩
  · rw [e1, e6]
    have := rgi_in nx nh i
    exact CS_c hn (g6 i hi) (fun j h1 h2 => hσ j (by unfold RK; omega)) (fun _ _ => rfl)
  · unfold Sv; rw [s0, z10, e1, e5]
    rcases h4 with h4 | ⟨h4, h5, h6⟩
    · exact Or.inl h4
    · exact Or.inr ⟨h4, h5, CS_c hn h6 (fun j h1 h2 => hσ j (by unfold RK; omega)) (fun _ _ => rfl)⟩
def KK (k : Nat) : Prop := RK k ∨ (41 ≤ k ∧ k < 72)
def KT (k j : Nat) : Prop := RT k j ∨ k = 3
theorem Rel_c {σ ρ τ υ : Mem} (h : Rel σ τ) (hσ : ∀ k, KK k → ρ k = σ k) (hτ : ∀ k j, KT k j → υ k j = τ k j) : Rel ρ υ := by
  obtain ⟨k, n, h1, h2⟩ := h
  have e1 : υ 1 = τ 1 := funext fun j => hτ 1 j (by simp [KT, RT])
  have e3 : υ 3 = τ 3 := funext fun j => hτ 3 j (by simp [KT, RT])
  refine ⟨k, n, Rest_c h1 (fun k hk => hσ k (Or.inl hk)) (fun k j hk => hτ k j (Or.inl hk)), ?_⟩
  rw [e1, e3]
  exact CS_c h1.1.2.2.2.2 h2 (fun j h1 h2 => hσ j (by unfold KK; omega)) (fun _ _ => rfl)
theorem Rel_0 {σ τ : Mem} (h : Rel σ τ) (v : Int32) : Rel σ (up τ 0 0 v) := by
  refine Rel_c h (fun _ _ => rfl) fun k j hk => ?_
  rw [up_g, if_neg]
  intro z
  rw [z.1, z.2] at hk
  simp [KT, RT] at hk
