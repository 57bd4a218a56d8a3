/-! PURE PART: the places that scans show -/
theorem ix_some {P : En → Bool} : ∀ (l : List En) (i p : Nat), ix P l i = some p → i ≤ p ∧ p < i + l.length ∧ ∃ e, l[p - i]? = some e ∧ P e = true := by
  intro l
  induction l with
  | nil => intro i p h; cases h
  | cons x l ih =>
    intro i p h
    rw [ix] at h
    by_cases hx : P x = true
    · rw [if_pos hx] at h
      cases h
      exact ⟨Nat.le_refl _, by rw [List.length_cons]; omega, x, by rw [Nat.sub_self]; rfl, hx⟩
    · rw [if_neg hx] at h
      obtain ⟨h1, h2, e, h3, h4⟩ := ih (i + 1) p h
      refine ⟨by omega, by rw [List.length_cons]; omega, e, ?_, h4⟩
      have : p - i = (p - (i + 1)) + 1 := by omega
      rw [this]; exact h3
theorem ix_lt {P : En → Bool} {L : List En} (hL : L.length ≤ 144) {p : Nat} (h : ix P L 0 = some p) : p < 144 := by
  have := ix_some L 0 p h; omega
theorem isL_lt {F : Nat → Int32} {n a k k' p p' : Nat} (h : ix (isL k) (ordE F n a) 0 = some p) (h' : ix (isL k') (ordE F n a) 0 = some p') (hk : k < k') : p < p' := by
  obtain ⟨-, h2, e, h3, h4⟩ := ix_some _ _ _ h
  obtain ⟨-, h2', e', h3', h4'⟩ := ix_some _ _ _ h'
  have g : e = (k, none) := of_decide_eq_true h4
  have g' : e' = (k', none) := of_decide_eq_true h4'
  subst g g'
  rw [Nat.sub_zero] at h3 h3'
  rcases Nat.lt_trichotomy p p' with q | q | q
  · exact q
  · subst q
    rw [h3] at h3'
    cases h3'; omega
  · have hs := List.pairwise_iff_getElem.mp (ordE_sorted (F := F) (n := n) (a := a)) p' p (by omega) (by omega) q
    have e1 : (ordE F n a)[p'] = (k', none) := by
      have := List.getElem?_eq_getElem (l := ordE F n a) (i := p') (by omega)
      rw [h3'] at this; exact (Option.some.inj this).symm
    have e2 : (ordE F n a)[p] = (k, none) := by
      have := List.getElem?_eq_getElem (l := ordE F n a) (i := p) (by omega)
      rw [h3] at this; exact (Option.some.inj this).symm
    rw [e1, e2] at hs
    exact absurd hs (by simp only; omega)
def sh0 (F : Nat → Int32) (L : List En) (c : Nat) : Option Nat :=
  if F (89 + 3 * c) = ι 0 then ix (isL (2 * nn (F (89 + 3 * c + 1)) + nn (F (89 + 3 * c + 2)))) L 0
  else if F (89 + 3 * c) = ι 2 then ix (isS (nn (F (89 + 3 * c + 1))) (nn (F (89 + 3 * c + 2)))) L 0
  else if F (89 + 3 * c + 1) = μ then none else ix (isL (2 * nn (F (89 + 3 * c + 1)) + 1)) L 0
def sh1 (F : Nat → Int32) (L : List En) (c : Nat) : Option Nat :=
  if F (89 + 3 * c) = ι 1 then (if F (89 + 3 * c + 2) = μ then none else ix (isL (2 * nn (F (89 + 3 * c + 2)) + 0)) L 0) else none
def oA (l r : Option Nat) : Option Nat := match l with | none => r | some x => some x
def oB (l r : Option Nat) : Option Nat := match l with | none => none | some _ => r
def fs (F : Nat → Int32) (L : List En) (c : Nat) : Option Nat := oA (sh0 F L c) (sh1 F L c)
def sc (F : Nat → Int32) (L : List En) (c : Nat) : Option Nat := oB (sh0 F L c) (sh1 F L c)
theorem sh0_lt {F : Nat → Int32} {L : List En} {c p : Nat} (hL : L.length ≤ 144) (h : sh0 F L c = some p) : p < L.length := by
  unfold sh0 at h
  have key : ∀ P : En → Bool, ix P L 0 = some p → p < L.length := fun P hP => by have := ix_some L 0 p hP; omega
  split at h
  · exact key _ h
  · split at h
    · exact key _ h
    · split at h
      · cases h
      · exact key _ h
theorem sh1_lt {F : Nat → Int32} {L : List En} {c p : Nat} (hL : L.length ≤ 144) (h : sh1 F L c = some p) : p < L.length := by
  unfold sh1 at h
  have key : ∀ P : En → Bool, ix P L 0 = some p → p < L.length := fun P hP => by have := ix_some L 0 p hP; omega
  split at h
  · split at h
    · cases h
    · exact key _ h
  · cases h
theorem sh_lt {F : Nat → Int32} {n a c p p' : Nat} (hn : n ≤ 60) (hc : ScI n a F c) (h : sh0 F (ordE F n a) c = some p) (h' : sh1 F (ordE F n a) c = some p') : p < p' := by
  rcases hc with ⟨h0, -⟩ | ⟨h0, x, y, h1, h2, h3, h4, h5⟩ | ⟨h0, -⟩
  · unfold sh1 at h'
    rw [h0, if_neg (by decide)] at h'; cases h'
  · unfold sh0 at h
    unfold sh1 at h'
    rw [h0, if_neg (by decide), if_neg (by decide)] at h
    rw [h0, if_pos rfl] at h'
    cases x with
    | none => rw [h1, if_pos (show oi none = μ from rfl)] at h; cases h
    | some x =>
      cases y with
      | none => rw [h2, if_pos (show oi none = μ from rfl)] at h'; cases h'
      | some y =>
        have g1 := h3 x rfl
        have g2 := h4 y rfl
        have g3 := h5 x y rfl rfl
        have e1 : ¬ oi (some x) = μ := fun z => by rw [show oi (some x) = ι x from rfl, ι_m1 (by omega)] at z; exact z
        have e2 : ¬ oi (some y) = μ := fun z => by rw [show oi (some y) = ι y from rfl, ι_m1 (by omega)] at z; exact z
        rw [h1, if_neg e1, show oi (some x) = ι x from rfl, nn_ι (by omega)] at h
        rw [h2, if_neg e2, show oi (some y) = ι y from rfl, nn_ι (by omega)] at h'
        exact isL_lt h h' (by omega)
  · unfold sh1 at h'
    rw [h0, if_neg (by decide)] at h'; cases h'
theorem c_putPlaces {σ : Mem} {c : Nat} (hc : c < 60) {l r : Option Nat} (hl : ∀ i, l = some i → i < 144) : fX4_putPlaces 373 (ι c) (oi l) (oi r) σ = some (up (up σ 375 c (oi (oA l r))) 377 c (oi (oB l r))) := by
  unfold fX4_putPlaces
  have p1 : ∀ (ω : Mem) (y : Int32), fX3_put 374 (ι c) y ω = some (up ω 375 c y) := fun ω y => c_put (o := 374) (by decide : ln (374 + 1) = 60) (by omega) hc
  have p2 : ∀ (ω : Mem) (y : Int32), fX3_put 376 (ι c) y ω = some (up ω 377 c y) := fun ω y => c_put (o := 376) (by decide : ln (376 + 1) = 60) (by omega) hc
  cases l with
  | none =>
    simp only [Nat.reduceAdd, p1, p2, Option.bind_some]
    rw [if_pos (show oi none = -1 from rfl), if_pos (show oi none = -1 from rfl)]
    rfl
  | some i =>
    have := hl i rfl
    have e1 : ¬ oi (some i) = -1 := fun z => by
      have z : ι i = μ := z
      rw [ι_m1 (by omega)] at z; exact z
    simp only [Nat.reduceAdd, p1, p2, Option.bind_some, if_neg e1]
    rfl
theorem c_scanRow {σ : Mem} {d : Nat} {F : Nat → Int32} (hd : d ≤ 60) (hC : CR σ 62 d F) {c : Nat} (hc : c < d) : fX5_kindOf 62 (ι c) σ = some (F (89 + 3 * c)) ∧ fX5_firstOf 62 (ι c) σ = some (F (89 + 3 * c + 1)) ∧ fX5_secondOf 62 (ι c) σ = some (F (89 + 3 * c + 2)) := by
  unfold fX5_kindOf fX5_firstOf fX5_secondOf
  refine ⟨?_, ?_, ?_⟩
  · rw [c_at hC.1.1 (by omega) (by omega), hC.2.2.1 c hc]; rfl
  · rw [c_at hC.1.2.1 (by omega) (by omega), hC.2.2.2.1 c hc]; rfl
  · rw [c_at hC.1.2.2 (by omega) (by omega), hC.2.2.2.2 c hc]; rfl
theorem c_pLeaf {σ : Mem} {L : List En} (oc : OC σ L) {o : Option Nat} (ho : ∀ i, o = some i → i < 60) {y : Nat} (hy : y < 2) : fX2_placeOfLeaf 360 (oi o) (ι y) σ = some (oi (if oi o = μ then none else ix (isL (2 * nn (oi o) + y)) L 0)) := by
  cases o with
  | none => rfl
  | some i =>
    have hi := ho i rfl
    have e1 : ¬ oi (some i) = μ := fun z => by rw [show oi (some i) = ι i from rfl, ι_m1 (by omega)] at z; exact z
    rw [if_neg e1, show oi (some i) = ι i from rfl, c_placeOfLeaf oc hi hy, nn_ι (by omega)]
theorem c_l10 {F : Nat → Int32} {L : List En} {n a d : Nat} (hn : n ≤ 60) (ha : a ≤ 12) (hd : d ≤ 60) (hL : L.length ≤ 144) (hS : ∀ c, c < d → ScI n a F c) : ∀ m n' c (σ : Mem), c + m = d → m < n' → CR σ 62 d F → OC σ L → σ 373 5 = ι d → (∀ i, i < c → σ 375 i = oi (fs F L i) ∧ σ 377 i = oi (sc F L i)) → ∃ z ρ, fX4_follow_l10 373 62 360 n' (ι c) σ = some (z, ρ) ∧ (∀ i, i < d → ρ 375 i = oi (fs F L i) ∧ ρ 377 i = oi (sc F L i)) ∧ (∀ j, j ≠ 375 → j ≠ 377 → ρ j = σ j) := by
  intro m
  induction m with
  | zero =>
    intro n' c σ h hn' hC hO h5 hr
    obtain ⟨n', rfl⟩ : ∃ k, n' = k + 1 := ⟨n' - 1, by omega⟩
    refine ⟨ι c, σ, ?_, fun i hi => hr i (by omega), fun _ _ _ => rfl⟩
    rw [fX4_follow_l10]
    simp (disch := omega) only [l_0, l_1, l_2, l_3, l_4, l_5, l_6, l_7, l_8, l_9, l_10, l_12, l_13, l_24, l_31, l_32, l_40, l_41, l_42, l_44, l_45, l_48, l_49, l_50, l_57, l_59, l_60, l_65, l_88, l_89, l_97, l_98, l_99, l_100, l_105, l_108, l_109, l_114, l_118, l_120, l_122, l_144, l_255, l_269, l_279, l_339, l_400, l_600, l_999, l_1000, l_2373, l_2712, ι_lt, ι_le, ι_eq, ι_add, ι_mul, ι_sub, ι_div, ι_n, ι_m1, m1_ι, m1_lt, m1_le, lt_m1, le_m1, m1_lt_m1, m1_le_m1, m1_add1, neg_ι1, ι_addm, ι_addn, Bool.false_eq_true, Nat.not_lt_zero, Nat.add_zero, Nat.zero_add, Nat.mul_zero, Nat.reduceMul, Nat.reduceAdd, Nat.reduceSub, Nat.reduceLT, Nat.reduceLeDiff, Nat.reduceEqDiff, Nat.reduceDiv, Nat.reduceBEq, Nat.reduceBNe, false_or, or_false, true_or, or_true, and_true, true_and, false_and, and_false, not_false_eq_true, not_true_eq_false, if_true, if_false, if_pos, if_neg, Option.bind_some, ite_false, ite_true, eq_self, reduceIte, h5]
  | succ m ih =>
    intro n' c σ h hn' hC hO h5 hr
    obtain ⟨n', rfl⟩ : ∃ k, n' = k + 1 := ⟨n' - 1, by omega⟩
    obtain ⟨r1, r2, r3⟩ := c_scanRow hd hC (show c < d by omega)
    have key : ∀ l r : Option Nat, (∀ i, l = some i → i < 144) → sh0 F L c = l → sh1 F L c = r → ∃ ω, fX4_putPlaces 373 (ι c) (oi l) (oi r) σ = some ω ∧ ∃ z ρ, fX4_follow_l10 373 62 360 n' (ι (c + 1)) ω = some (z, ρ) ∧ (∀ i, i < d → ρ 375 i = oi (fs F L i) ∧ ρ 377 i = oi (sc F L i)) ∧ (∀ j, j ≠ 375 → j ≠ 377 → ρ j = σ j) := fun l r hl hs0 hs1 => by
      refine ⟨_, c_putPlaces (by omega) hl, ?_⟩
      have w : ∀ j, j ≠ 375 → j ≠ 377 → (up (up σ 375 c (oi (oA l r))) 377 c (oi (oB l r))) j = σ j := fun j h1 h2 => by simp (disch := omega) only [up_e, up_j, up_k, Nat.reduceAdd, Nat.add_zero]
      obtain ⟨z, ρ, b1, b2, b3⟩ := ih n' (c + 1) (up (up σ 375 c (oi (oA l r))) 377 c (oi (oB l r))) (by omega) (by omega) (CR_c hd hC (fun j hj => w _ (by omega) (by omega)) (fun _ _ => rfl)) (by
          unfold OC
          rw [w 360 (by omega) (by omega), w 362 (by omega) (by omega), w 364 (by omega) (by omega), w 366 (by omega) (by omega), w 368 (by omega) (by omega), w 370 (by omega) (by omega), w 372 (by omega) (by omega)]
          exact hO) (by rw [w 373 (by omega) (by omega)]; exact h5) (fun i hi => by
          by_cases hic : i = c
          · subst hic
            simp (disch := omega) only [up_e, up_j, up_k, Nat.reduceAdd, Nat.add_zero]
            unfold fs sc
            rw [hs0, hs1]
            exact ⟨rfl, rfl⟩
          · simp (disch := omega) only [up_e, up_j, up_k, Nat.reduceAdd, Nat.add_zero]
            exact hr i (by omega))
      exact ⟨z, ρ, b1, b2, fun j h1 h2 => (b3 j h1 h2).trans (w j h1 h2)⟩
    have hlt := fun i => sh0_lt (F := F) (c := c) (p := i) hL
    rw [fX4_follow_l10, r1, r2, r3]
    simp (disch := omega) only [h5, ι_le, if_neg, Option.bind_some, l_1, ι_add]
    rcases hS c (by omega) with ⟨h0, x, y, h1, h2, h3, h4⟩ | ⟨h0, x, y, h1, h2, h3, h4, h6⟩ | ⟨h0, x, y, h1, h2, h3, h4⟩
    · rw [h0, if_neg (show ¬ ι 0 = ι 1 by decide), if_neg (show ¬ ι 0 = (2 : Int32) by decide), h3, h4, c_placeOfLeaf hO (by omega) h2, Option.bind_some]
      obtain ⟨ω, k1, z, ρ, k2, k3, k4⟩ := key (ix (isL (2 * x + y)) L 0) none (fun i hi => ix_lt hL hi) (by unfold sh0; rw [h0, if_pos rfl, h3, h4, nn_ι (by omega), nn_ι (by omega)]) (by unfold sh1; rw [h0, if_neg (by decide)])
      rw [show -ι 1 = oi none from rfl, k1, Option.bind_some]
      exact ⟨z, ρ, k2, k3, k4⟩
    · rw [h0, if_pos rfl, h1, h2, c_pLeaf hO (fun i hi => by have := h3 i hi; omega) (by omega), Option.bind_some, l_0, c_pLeaf hO (fun i hi => by have := h4 i hi; omega) (by omega), Option.bind_some]
      obtain ⟨ω, k1, z, ρ, k2, k3, k4⟩ := key (if oi x = μ then none else ix (isL (2 * nn (oi x) + 1)) L 0) (if oi y = μ then none else ix (isL (2 * nn (oi y) + 0)) L 0) (fun i hi => by
          have e : sh0 F L c = (if oi x = μ then none else ix (isL (2 * nn (oi x) + 1)) L 0) := by unfold sh0; rw [h0, if_neg (by decide), if_neg (by decide), h1]
          rw [← e] at hi
          have := sh0_lt hL hi; omega) (by unfold sh0; rw [h0, if_neg (by decide), if_neg (by decide), h1]) (by unfold sh1; rw [h0, if_pos rfl, h2])
      rw [k1, Option.bind_some]
      exact ⟨z, ρ, k2, k3, k4⟩
    · rw [h0, if_neg (show ¬ ι 2 = ι 1 by decide), if_pos (show ι 2 = (2 : Int32) from rfl), h3, h4, c_placeOfSlip hO (by omega) h2, Option.bind_some]
      obtain ⟨ω, k1, z, ρ, k2, k3, k4⟩ := key (ix (isS x y) L 0) none (fun i hi => ix_lt hL hi) (by unfold sh0; rw [h0, if_neg (by decide), if_pos rfl, h3, h4, nn_ι (by omega), nn_ι (by omega)]) (by unfold sh1; rw [h0, if_neg (by decide)])
      rw [show -ι 1 = oi none from rfl, k1, Option.bind_some]
      exact ⟨z, ρ, k2, k3, k4⟩
def PC (σ : Mem) (F : Nat → Int32) (L : List En) (d : Nat) : Prop := σ 373 5 = ι d ∧ ∀ i, i < d → σ 375 i = oi (fs F L i) ∧ σ 377 i = oi (sc F L i)
theorem c_follow {σ : Mem} {F : Nat → Int32} {L : List En} {n a d : Nat} (hn : n ≤ 60) (ha : a ≤ 12) (hd : d ≤ 60) (hL : L.length ≤ 144) (hS : ∀ c, c < d → ScI n a F c) (hC : CR σ 62 d F) (hO : OC σ L) : ∃ ρ, fX4_follow 373 62 360 σ = some ρ ∧ PC ρ F L d ∧ OC ρ L ∧ (∀ j, j < 373 → ρ j = σ j) := by
  have w : ∀ j, j ≠ 373 → up σ 373 5 (ι d) j = σ j := fun j h1 => by simp (disch := omega) only [up_e, up_j, up_k, Nat.reduceAdd, Nat.add_zero]
  obtain ⟨z, ρ, a1, a2, a3⟩ := c_l10 hn ha hd hL hS d FU 0 (up σ 373 5 (ι d)) (by omega) (by unfold FU; omega) (CR_c hd hC (fun j hj => w _ (by omega)) (fun _ _ => rfl)) (by
    unfold OC
    rw [w 360 (by omega), w 362 (by omega), w 364 (by omega), w 366 (by omega), w 368 (by omega), w 370 (by omega), w 372 (by omega)]
    exact hO) (up_e _ _ _ _) (fun i hi => by omega)
  have w' : ∀ j, j < 373 → ρ j = σ j := fun j hj => (a3 j (by omega) (by omega)).trans (w j (by omega))
  refine ⟨ρ, ?_, ⟨by rw [a3 373 (by omega) (by omega)]; exact up_e _ _ _ _, a2⟩, ?_, w'⟩
  · unfold fX4_follow fX5_size
    rw [hC.2.1, Option.bind_some, l_0, a1]; rfl
  · unfold OC
    rw [w' 360 (by omega), w' 362 (by omega), w' 364 (by omega), w' 366 (by omega), w' 368 (by omega), w' 370 (by omega), w' 372 (by omega)]
    exact hO
theorem r_ofScan {τ : Mem} {i w : Nat} (hi : i < 60) (hw : w < 3) : fX12_ofScan (ι i) (ι w) τ = some (τ 3 (89 + 3 * i + w)) := by
  unfold fX12_ofScan
  simp (disch := omega) only [l_0, l_1, l_2, l_3, l_4, l_5, l_6, l_7, l_8, l_9, l_10, l_12, l_13, l_24, l_31, l_32, l_40, l_41, l_42, l_44, l_45, l_48, l_49, l_50, l_57, l_59, l_60, l_65, l_88, l_89, l_97, l_98, l_99, l_100, l_105, l_108, l_109, l_114, l_118, l_120, l_122, l_144, l_255, l_269, l_279, l_339, l_400, l_600, l_999, l_1000, l_2373, l_2712, ι_lt, ι_le, ι_eq, ι_add, ι_mul, ι_sub, ι_div, ι_n, ι_m1, m1_ι, m1_lt, m1_le, lt_m1, le_m1, m1_lt_m1, m1_le_m1, m1_add1, neg_ι1, ι_addm, ι_addn, Bool.false_eq_true, Nat.not_lt_zero, Nat.add_zero, Nat.zero_add, Nat.mul_zero, Nat.reduceMul, Nat.reduceAdd, Nat.reduceSub, Nat.reduceLT, Nat.reduceLeDiff, Nat.reduceEqDiff, Nat.reduceDiv, Nat.reduceBEq, Nat.reduceBNe, false_or, or_false, true_or, or_true, and_true, true_and, false_and, and_false, not_false_eq_true, not_true_eq_false, if_true, if_false, if_pos, if_neg, Option.bind_some, ite_false, ite_true, eq_self, reduceIte, lm_0, lm_1, lm_2, lm_3, lm_4, lm_5, lm_6, lm_7, lm_8, lm_9, lm_10, lm_11, lm_12, lm_13, lm_14, lm_15, lm_16, lm_17]
def fr12 (τ υ : Mem) : Prop := ∀ k j, k ≠ 12 → υ k j = τ k j
theorem OT_c {τ υ : Mem} {L : List En} (h : OT τ L) (h1 : υ 8 = τ 8) (h2 : υ 0 17 = τ 0 17) : OT υ L := by
  unfold OT; rw [h1, h2]; exact h
theorem r_pLeaf {τ : Mem} {L : List En} (hL : L.length ≤ 144) (hO : OT τ L) (hE : ∀ (p : Nat) e, L[p]? = some e → e.1 < 120 ∧ ∀ s w, e.2 = some (s, w) → s < 12 ∧ w < 2) {x y : Nat} (hx : x < 60) (hy : y < 2) : fX12_placeOfLeaf (ι x) (ι y) τ = some (oi (ix (isL (2 * x + y)) L 0)) :=
  r_placeOfLeaf hL hO (fun p e h => ⟨(hE p e h).1, fun s w hsw => ((hE p e h).2 s w hsw).1⟩) hx hy
theorem r_shown {τ : Mem} {L : List En} {n a d : Nat} (hn : n ≤ 60) (ha : a ≤ 12) (hd : d ≤ 60) (hL : L.length ≤ 144) (hE : ∀ (p : Nat) e, L[p]? = some e → e.1 < 120 ∧ ∀ s w, e.2 = some (s, w) → s < 12 ∧ w < 2) (hO : OT τ L) {c : Nat} (hc : c < d) (hS : ScI n a (τ 3) c) : ∃ υ, fX12_laysShown (ι c) τ = some υ ∧ υ 12 0 = oi (sh0 (τ 3) L c) ∧ υ 12 1 = oi (sh1 (τ 3) L c) ∧ fr12 τ υ := by
  have w0 : up τ 12 1 μ 3 = τ 3 := up_k _ _ _ _ _ (by omega)
  have hO' : ∀ (j : Nat) (v : Int32) (ω : Mem), OT ω L → OT (up ω 12 j v) L := fun j v ω h => OT_c h (up_k _ _ _ _ _ (by omega)) (by rw [up_k _ _ _ _ _ (by omega)])
  unfold fX12_laysShown
  have o0 : ∀ ω : Mem, fX12_ofScan (ι c) (ι 0) ω = some (ω 3 (89 + 3 * c)) := fun ω => r_ofScan (by omega) (by omega)
  have o1 : ∀ ω : Mem, fX12_ofScan (ι c) (ι 1) ω = some (ω 3 (89 + 3 * c + 1)) := fun ω => r_ofScan (by omega) (by omega)
  have o2 : ∀ ω : Mem, fX12_ofScan (ι c) (ι 2) ω = some (ω 3 (89 + 3 * c + 2)) := fun ω => r_ofScan (by omega) (by omega)
  simp (disch := omega) only [l_0, l_1, l_2, l_3, l_4, l_5, l_6, l_7, l_8, l_9, l_10, l_12, l_13, l_24, l_31, l_32, l_40, l_41, l_42, l_44, l_45, l_48, l_49, l_50, l_57, l_59, l_60, l_65, l_88, l_89, l_97, l_98, l_99, l_100, l_105, l_108, l_109, l_114, l_118, l_120, l_122, l_144, l_255, l_269, l_279, l_339, l_400, l_600, l_999, l_1000, l_2373, l_2712, ι_lt, ι_le, ι_eq, ι_add, ι_mul, ι_sub, ι_div, ι_n, ι_m1, m1_ι, m1_lt, m1_le, lt_m1, le_m1, m1_lt_m1, m1_le_m1, m1_add1, neg_ι1, ι_addm, ι_addn, Bool.false_eq_true, Nat.not_lt_zero, Nat.add_zero, Nat.zero_add, Nat.mul_zero, Nat.reduceMul, Nat.reduceAdd, Nat.reduceSub, Nat.reduceLT, Nat.reduceLeDiff, Nat.reduceEqDiff, Nat.reduceDiv, Nat.reduceBEq, Nat.reduceBNe, false_or, or_false, true_or, or_true, and_true, true_and, false_and, and_false, not_false_eq_true, not_true_eq_false, if_true, if_false, if_pos, if_neg, Option.bind_some, ite_false, ite_true, eq_self, reduceIte, lm_0, lm_1, lm_2, lm_3, lm_4, lm_5, lm_6, lm_7, lm_8, lm_9, lm_10, lm_11, lm_12, lm_13, lm_14, lm_15, lm_16, lm_17, o0, o1, o2, w0]
  rcases hS with ⟨h0, x, y, h1, h2, h3, h4⟩ | ⟨h0, x, y, h1, h2, h3, h4, h6⟩ | ⟨h0, x, y, h1, h2, h3, h4⟩
  · simp (disch := omega) only [h0, h3, h4, l_0, l_1, l_2, l_3, l_4, l_5, l_6, l_7, l_8, l_9, l_10, l_12, l_13, l_24, l_31, l_32, l_40, l_41, l_42, l_44, l_45, l_48, l_49, l_50, l_57, l_59, l_60, l_65, l_88, l_89, l_97, l_98, l_99, l_100, l_105, l_108, l_109, l_114, l_118, l_120, l_122, l_144, l_255, l_269, l_279, l_339, l_400, l_600, l_999, l_1000, l_2373, l_2712, ι_lt, ι_le, ι_eq, ι_add, ι_mul, ι_sub, ι_div, ι_n, ι_m1, m1_ι, m1_lt, m1_le, lt_m1, le_m1, m1_lt_m1, m1_le_m1, m1_add1, neg_ι1, ι_addm, ι_addn, Bool.false_eq_true, Nat.not_lt_zero, Nat.add_zero, Nat.zero_add, Nat.mul_zero, Nat.reduceMul, Nat.reduceAdd, Nat.reduceSub, Nat.reduceLT, Nat.reduceLeDiff, Nat.reduceEqDiff, Nat.reduceDiv, Nat.reduceBEq, Nat.reduceBNe, false_or, or_false, true_or, or_true, and_true, true_and, false_and, and_false, not_false_eq_true, not_true_eq_false, if_true, if_false, if_pos, if_neg, Option.bind_some, ite_false, ite_true, eq_self, reduceIte, r_pLeaf hL (hO' 1 μ τ hO) hE (show x < 60 by omega) h2]
    refine ⟨_, rfl, ?_, ?_, fun k j hk => ?_⟩
    · unfold sh0
      rw [up_e, h0, if_pos rfl, h3, h4, nn_ι (by omega), nn_ι (by omega)]
    · unfold sh1
      rw [up_j _ _ _ _ _ (by omega), up_e, h0, if_neg (by decide)]; rfl
    · simp (disch := omega) only [up_e, up_j, up_k, Nat.reduceAdd, Nat.add_zero]
  · have s0 : sh0 (τ 3) L c = if oi x = μ then none else ix (isL (2 * nn (oi x) + 1)) L 0 := by unfold sh0; rw [h0, if_neg (by decide), if_neg (by decide), h1]
    have s1 : sh1 (τ 3) L c = if oi y = μ then none else ix (isL (2 * nn (oi y) + 0)) L 0 := by unfold sh1; rw [h0, if_pos rfl, h2]
    rw [s0, s1]
    unfold fX12_laysShown_j90
    cases x with
    | none =>
      cases y with
      | none =>
        simp (disch := omega) only [h0, h1, h2, oi, l_0, l_1, l_2, l_3, l_4, l_5, l_6, l_7, l_8, l_9, l_10, l_12, l_13, l_24, l_31, l_32, l_40, l_41, l_42, l_44, l_45, l_48, l_49, l_50, l_57, l_59, l_60, l_65, l_88, l_89, l_97, l_98, l_99, l_100, l_105, l_108, l_109, l_114, l_118, l_120, l_122, l_144, l_255, l_269, l_279, l_339, l_400, l_600, l_999, l_1000, l_2373, l_2712, ι_lt, ι_le, ι_eq, ι_add, ι_mul, ι_sub, ι_div, ι_n, ι_m1, m1_ι, m1_lt, m1_le, lt_m1, le_m1, m1_lt_m1, m1_le_m1, m1_add1, neg_ι1, ι_addm, ι_addn, Bool.false_eq_true, Nat.not_lt_zero, Nat.add_zero, Nat.zero_add, Nat.mul_zero, Nat.reduceMul, Nat.reduceAdd, Nat.reduceSub, Nat.reduceLT, Nat.reduceLeDiff, Nat.reduceEqDiff, Nat.reduceDiv, Nat.reduceBEq, Nat.reduceBNe, false_or, or_false, true_or, or_true, and_true, true_and, false_and, and_false, not_false_eq_true, not_true_eq_false, if_true, if_false, if_pos, if_neg, Option.bind_some, ite_false, ite_true, eq_self, reduceIte, lm_0, lm_1, lm_2, lm_3, lm_4, lm_5, lm_6, lm_7, lm_8, lm_9, lm_10, lm_11, lm_12, lm_13, lm_14, lm_15, lm_16, lm_17]
        exact ⟨_, rfl, by simp (disch := omega) only [up_e, up_j, up_k, Nat.reduceAdd, Nat.add_zero], by simp (disch := omega) only [up_e, up_j, up_k, Nat.reduceAdd, Nat.add_zero], fun k j hk => by simp (disch := omega) only [up_e, up_j, up_k, Nat.reduceAdd, Nat.add_zero]⟩
      | some y =>
        have gy := h4 y rfl
        simp (disch := omega) only [h0, h1, h2, oi, l_0, l_1, l_2, l_3, l_4, l_5, l_6, l_7, l_8, l_9, l_10, l_12, l_13, l_24, l_31, l_32, l_40, l_41, l_42, l_44, l_45, l_48, l_49, l_50, l_57, l_59, l_60, l_65, l_88, l_89, l_97, l_98, l_99, l_100, l_105, l_108, l_109, l_114, l_118, l_120, l_122, l_144, l_255, l_269, l_279, l_339, l_400, l_600, l_999, l_1000, l_2373, l_2712, ι_lt, ι_le, ι_eq, ι_add, ι_mul, ι_sub, ι_div, ι_n, ι_m1, m1_ι, m1_lt, m1_le, lt_m1, le_m1, m1_lt_m1, m1_le_m1, m1_add1, neg_ι1, ι_addm, ι_addn, Bool.false_eq_true, Nat.not_lt_zero, Nat.add_zero, Nat.zero_add, Nat.mul_zero, Nat.reduceMul, Nat.reduceAdd, Nat.reduceSub, Nat.reduceLT, Nat.reduceLeDiff, Nat.reduceEqDiff, Nat.reduceDiv, Nat.reduceBEq, Nat.reduceBNe, false_or, or_false, true_or, or_true, and_true, true_and, false_and, and_false, not_false_eq_true, not_true_eq_false, if_true, if_false, if_pos, if_neg, Option.bind_some, ite_false, ite_true, eq_self, reduceIte, lm_0, lm_1, lm_2, lm_3, lm_4, lm_5, lm_6, lm_7, lm_8, lm_9, lm_10, lm_11, lm_12, lm_13, lm_14, lm_15, lm_16, lm_17, r_pLeaf hL (hO' 0 μ _ (hO' 1 μ τ hO)) hE (show y < 60 by omega) (show 0 < 2 by omega)]
        refine ⟨_, rfl, by simp (disch := omega) only [up_e, up_j, up_k, Nat.reduceAdd, Nat.add_zero], ?_, fun k j hk => by simp (disch := omega) only [up_e, up_j, up_k, Nat.reduceAdd, Nat.add_zero]⟩
        simp (disch := omega) only [up_e, up_j, up_k, Nat.reduceAdd, Nat.add_zero, nn_ι]
    | some x =>
      have gx := h3 x rfl
      cases y with
      | none =>
        simp (disch := omega) only [h0, h1, h2, oi, l_0, l_1, l_2, l_3, l_4, l_5, l_6, l_7, l_8, l_9, l_10, l_12, l_13, l_24, l_31, l_32, l_40, l_41, l_42, l_44, l_45, l_48, l_49, l_50, l_57, l_59, l_60, l_65, l_88, l_89, l_97, l_98, l_99, l_100, l_105, l_108, l_109, l_114, l_118, l_120, l_122, l_144, l_255, l_269, l_279, l_339, l_400, l_600, l_999, l_1000, l_2373, l_2712, ι_lt, ι_le, ι_eq, ι_add, ι_mul, ι_sub, ι_div, ι_n, ι_m1, m1_ι, m1_lt, m1_le, lt_m1, le_m1, m1_lt_m1, m1_le_m1, m1_add1, neg_ι1, ι_addm, ι_addn, Bool.false_eq_true, Nat.not_lt_zero, Nat.add_zero, Nat.zero_add, Nat.mul_zero, Nat.reduceMul, Nat.reduceAdd, Nat.reduceSub, Nat.reduceLT, Nat.reduceLeDiff, Nat.reduceEqDiff, Nat.reduceDiv, Nat.reduceBEq, Nat.reduceBNe, false_or, or_false, true_or, or_true, and_true, true_and, false_and, and_false, not_false_eq_true, not_true_eq_false, if_true, if_false, if_pos, if_neg, Option.bind_some, ite_false, ite_true, eq_self, reduceIte, lm_0, lm_1, lm_2, lm_3, lm_4, lm_5, lm_6, lm_7, lm_8, lm_9, lm_10, lm_11, lm_12, lm_13, lm_14, lm_15, lm_16, lm_17, r_pLeaf hL (hO' 1 μ τ hO) hE (show x < 60 by omega) (show 1 < 2 by omega)]
        refine ⟨_, rfl, ?_, by simp (disch := omega) only [up_e, up_j, up_k, Nat.reduceAdd, Nat.add_zero], fun k j hk => by simp (disch := omega) only [up_e, up_j, up_k, Nat.reduceAdd, Nat.add_zero]⟩
        simp (disch := omega) only [up_e, up_j, up_k, Nat.reduceAdd, Nat.add_zero, nn_ι]
      | some y =>
        have gy := h4 y rfl
        simp (disch := omega) only [h0, h1, h2, oi, l_0, l_1, l_2, l_3, l_4, l_5, l_6, l_7, l_8, l_9, l_10, l_12, l_13, l_24, l_31, l_32, l_40, l_41, l_42, l_44, l_45, l_48, l_49, l_50, l_57, l_59, l_60, l_65, l_88, l_89, l_97, l_98, l_99, l_100, l_105, l_108, l_109, l_114, l_118, l_120, l_122, l_144, l_255, l_269, l_279, l_339, l_400, l_600, l_999, l_1000, l_2373, l_2712, ι_lt, ι_le, ι_eq, ι_add, ι_mul, ι_sub, ι_div, ι_n, ι_m1, m1_ι, m1_lt, m1_le, lt_m1, le_m1, m1_lt_m1, m1_le_m1, m1_add1, neg_ι1, ι_addm, ι_addn, Bool.false_eq_true, Nat.not_lt_zero, Nat.add_zero, Nat.zero_add, Nat.mul_zero, Nat.reduceMul, Nat.reduceAdd, Nat.reduceSub, Nat.reduceLT, Nat.reduceLeDiff, Nat.reduceEqDiff, Nat.reduceDiv, Nat.reduceBEq, Nat.reduceBNe, false_or, or_false, true_or, or_true, and_true, true_and, false_and, and_false, not_false_eq_true, not_true_eq_false, if_true, if_false, if_pos, if_neg, Option.bind_some, ite_false, ite_true, eq_self, reduceIte, lm_0, lm_1, lm_2, lm_3, lm_4, lm_5, lm_6, lm_7, lm_8, lm_9, lm_10, lm_11, lm_12, lm_13, lm_14, lm_15, lm_16, lm_17, r_pLeaf hL (hO' 1 μ τ hO) hE (show x < 60 by omega) (show 1 < 2 by omega), r_pLeaf hL (hO' 0 _ _ (hO' 1 μ τ hO)) hE (show y < 60 by omega) (show 0 < 2 by omega)]
        refine ⟨_, rfl, ?_, ?_, fun k j hk => by simp (disch := omega) only [up_e, up_j, up_k, Nat.reduceAdd, Nat.add_zero]⟩
        · simp (disch := omega) only [up_e, up_j, up_k, Nat.reduceAdd, Nat.add_zero, nn_ι]
        · simp (disch := omega) only [up_e, up_j, up_k, Nat.reduceAdd, Nat.add_zero, nn_ι]
  · simp (disch := omega) only [h0, h3, h4, l_0, l_1, l_2, l_3, l_4, l_5, l_6, l_7, l_8, l_9, l_10, l_12, l_13, l_24, l_31, l_32, l_40, l_41, l_42, l_44, l_45, l_48, l_49, l_50, l_57, l_59, l_60, l_65, l_88, l_89, l_97, l_98, l_99, l_100, l_105, l_108, l_109, l_114, l_118, l_120, l_122, l_144, l_255, l_269, l_279, l_339, l_400, l_600, l_999, l_1000, l_2373, l_2712, ι_lt, ι_le, ι_eq, ι_add, ι_mul, ι_sub, ι_div, ι_n, ι_m1, m1_ι, m1_lt, m1_le, lt_m1, le_m1, m1_lt_m1, m1_le_m1, m1_add1, neg_ι1, ι_addm, ι_addn, Bool.false_eq_true, Nat.not_lt_zero, Nat.add_zero, Nat.zero_add, Nat.mul_zero, Nat.reduceMul, Nat.reduceAdd, Nat.reduceSub, Nat.reduceLT, Nat.reduceLeDiff, Nat.reduceEqDiff, Nat.reduceDiv, Nat.reduceBEq, Nat.reduceBNe, false_or, or_false, true_or, or_true, and_true, true_and, false_and, and_false, not_false_eq_true, not_true_eq_false, if_true, if_false, if_pos, if_neg, Option.bind_some, ite_false, ite_true, eq_self, reduceIte, r_placeOfSlip hL (hO' 1 μ τ hO) hE (show x < 12 by omega) h2]
    refine ⟨_, rfl, ?_, ?_, fun k j hk => ?_⟩
    · unfold sh0
      rw [up_e, h0, if_neg (by decide), if_pos rfl, h3, h4, nn_ι (by omega), nn_ι (by omega)]
    · unfold sh1
      rw [up_j _ _ _ _ _ (by omega), up_e, h0, if_neg (by decide)]; rfl
    · simp (disch := omega) only [up_e, up_j, up_k, Nat.reduceAdd, Nat.add_zero]
