/-! PURE PART: the program follows the order -/
def OC (σ : Mem) (l : List En) : Prop := σ 360 6 = ι l.length ∧ (∀ p e, l[p]? = some e → σ 362 p = eL e ∧ σ 364 p = eS e ∧ σ 366 p = eP e ∧ σ 368 p = eW e) ∧ (∀ k, k < 120 → σ 370 k = oi (ix (isL k) l 0)) ∧ (∀ s w, s < 12 → w < 2 → σ 372 (2 * s + w) = oi (ix (isS s w) l 0))
def frO (σ ρ : Mem) : Prop := ∀ j, (j < 360 ∨ 373 ≤ j) → ρ j = σ j
theorem frO_trans {τ υ ω : Mem} (h1 : frO τ υ) (h2 : frO υ ω) : frO τ ω := fun j h => (h2 j h).trans (h1 j h)
theorem frO_refl (τ : Mem) : frO τ τ := fun _ _ => rfl
theorem ln362 : ln (361 + 1) = 144 := by decide
theorem ln364 : ln (363 + 1) = 144 := by decide
theorem ln366 : ln (365 + 1) = 144 := by decide
theorem ln368 : ln (367 + 1) = 144 := by decide
theorem ln370 : ln (369 + 1) = 120 := by decide
theorem ln372 : ln (371 + 1) = 24 := by decide
theorem ix_app (P : En → Bool) (e : En) : ∀ l i, ix P (l ++ [e]) i = match ix P l i with | some r => some r | none => if P e then some (i + l.length) else none := by
  intro l
  induction l with
  | nil => intro i; simp [ix]
  | cons x l ih =>
    intro i
    simp only [List.cons_append, ix]
    by_cases h : P x = true
    · rw [if_pos h, if_pos h]
    · rw [if_neg h, if_neg h, ih, List.length_cons]
      have e : i + 1 + l.length = i + (l.length + 1) := by omega
      rw [e]
theorem ix_none {P : En → Bool} : ∀ {l : List En} {i : Nat}, (∀ e, e ∈ l → P e = false) → ix P l i = none := by
  intro l
  induction l with
  | nil => intro i _; rfl
  | cons x l ih =>
    intro i h
    rw [ix, if_neg (by rw [h x (List.mem_cons_self ..)]; simp)]
    exact ih fun e he => h e (List.mem_cons_of_mem _ he)
theorem ix_app_no {P : En → Bool} {e : En} (h : P e = false) (l : List En) : ix P (l ++ [e]) 0 = ix P l 0 := by
  rw [ix_app]
  cases ix P l 0 with
  | none => rw [if_neg (by rw [h]; simp)]
  | some r => rfl
theorem ix_app_yes {P : En → Bool} {e : En} (h : P e = true) {l : List En} (hl : ∀ e, e ∈ l → P e = false) : ix P (l ++ [e]) 0 = some l.length := by
  rw [ix_app, ix_none hl]
  simp [h]
theorem c_oadd {σ : Mem} {p : Nat} (h : σ 360 6 = ι p) (hp : p < 144) (x1 x2 x3 x4 : Int32) : fX2_add 360 x1 x2 x3 x4 σ = some (up (up (up (up (up σ 362 p x1) 364 p x2) 366 p x3) 368 p x4) 360 6 (ι (p + 1))) := by
  unfold fX2_add
  have p1 : ∀ (ω : Mem) (y : Int32), fX3_put 361 (ι p) y ω = some (up ω 362 p y) := fun ω y => c_put ln362 (by omega) hp
  have p2 : ∀ (ω : Mem) (y : Int32), fX3_put 363 (ι p) y ω = some (up ω 364 p y) := fun ω y => c_put ln364 (by omega) hp
  have p3 : ∀ (ω : Mem) (y : Int32), fX3_put 365 (ι p) y ω = some (up ω 366 p y) := fun ω y => c_put ln366 (by omega) hp
  have p4 : ∀ (ω : Mem) (y : Int32), fX3_put 367 (ι p) y ω = some (up ω 368 p y) := fun ω y => c_put ln368 (by omega) hp
  simp (disch := omega) only [l_0, l_1, l_2, l_3, l_4, l_5, l_6, l_7, l_8, l_9, l_10, l_12, l_13, l_24, l_31, l_32, l_40, l_41, l_42, l_44, l_45, l_48, l_49, l_50, l_57, l_59, l_60, l_65, l_88, l_89, l_97, l_98, l_99, l_100, l_105, l_108, l_109, l_114, l_118, l_120, l_122, l_144, l_255, l_269, l_279, l_339, l_400, l_600, l_999, l_1000, l_2373, l_2712, ι_lt, ι_le, ι_eq, ι_add, ι_mul, ι_sub, ι_div, ι_n, ι_m1, m1_ι, m1_lt, m1_le, lt_m1, le_m1, m1_lt_m1, m1_le_m1, m1_add1, neg_ι1, ι_addm, ι_addn, Bool.false_eq_true, Nat.not_lt_zero, Nat.add_zero, Nat.zero_add, Nat.mul_zero, Nat.reduceMul, Nat.reduceAdd, Nat.reduceSub, Nat.reduceLT, Nat.reduceLeDiff, Nat.reduceEqDiff, Nat.reduceDiv, Nat.reduceBEq, Nat.reduceBNe, false_or, or_false, true_or, or_true, and_true, true_and, false_and, and_false, not_false_eq_true, not_true_eq_false, if_true, if_false, if_pos, if_neg, Option.bind_some, ite_false, ite_true, eq_self, reduceIte, up_e, up_j, up_k, Nat.reduceAdd, Nat.add_zero, h, p1, p2, p3, p4]
theorem OC_rows {σ : Mem} {l : List En} (e : En) (h : OC σ l) {r : Mem} (hr : r = up (up (up (up (up σ 362 l.length (eL e)) 364 l.length (eS e)) 366 l.length (eP e)) 368 l.length (eW e)) 360 6 (ι (l.length + 1))) : r 360 6 = ι (l ++ [e]).length ∧ (∀ p e', (l ++ [e])[p]? = some e' → r 362 p = eL e' ∧ r 364 p = eS e' ∧ r 366 p = eP e' ∧ r 368 p = eW e') ∧ r 370 = σ 370 ∧ r 372 = σ 372 ∧ frO σ r := by
  subst hr
  refine ⟨?_, fun p e' hp => ?_, ?_, ?_, fun j hj => ?_⟩
  · rw [up_e, List.length_append]; rfl
  · rcases get_app hp with ⟨q1, q2⟩ | ⟨q1, q2⟩
    · obtain ⟨z1, z2, z3, z4⟩ := h.2.1 p e' q2
      refine ⟨?_, ?_, ?_, ?_⟩
      · rw [← z1]; simp (disch := omega) only [up_e, up_j, up_k, Nat.reduceAdd, Nat.add_zero]
      · rw [← z2]; simp (disch := omega) only [up_e, up_j, up_k, Nat.reduceAdd, Nat.add_zero]
      · rw [← z3]; simp (disch := omega) only [up_e, up_j, up_k, Nat.reduceAdd, Nat.add_zero]
      · rw [← z4]; simp (disch := omega) only [up_e, up_j, up_k, Nat.reduceAdd, Nat.add_zero]
    · subst q1 q2
      refine ⟨?_, ?_, ?_, ?_⟩
      · simp (disch := omega) only [up_e, up_j, up_k, Nat.reduceAdd, Nat.add_zero]
      · simp (disch := omega) only [up_e, up_j, up_k, Nat.reduceAdd, Nat.add_zero]
      · simp (disch := omega) only [up_e, up_j, up_k, Nat.reduceAdd, Nat.add_zero]
      · simp (disch := omega) only [up_e, up_j, up_k, Nat.reduceAdd, Nat.add_zero]
  · simp (disch := omega) only [up_e, up_j, up_k, Nat.reduceAdd, Nat.add_zero]
  · simp (disch := omega) only [up_e, up_j, up_k, Nat.reduceAdd, Nat.add_zero]
  · simp (disch := omega) only [up_e, up_j, up_k, Nat.reduceAdd, Nat.add_zero]
theorem c_addL {σ : Mem} {l : List En} {k : Nat} (hk : k < 120) (h : OC σ l) (hl : l.length < 144) (hu : ∀ e, e ∈ l → eK e ≠ .inl k) : ∃ ρ, ((fX3_put (360 + 9) (ι k) (σ 360 6) σ).bind fun v13 => fX2_add 360 (ι (k / 2)) (ι (k % 2)) μ μ v13) = some ρ ∧ OC ρ (l ++ [(k, none)]) ∧ frO σ ρ := by
  have h1 := h.1
  have p1 : fX3_put (360 + 9) (ι k) (σ 360 6) σ = some (up σ 370 k (ι l.length)) := by rw [h1]; exact c_put ln370 (by omega) hk
  rw [p1, Option.bind_some, c_oadd (p := l.length) (by simp (disch := omega) only [up_e, up_j, up_k, Nat.reduceAdd, Nat.add_zero]; exact h1) hl]
  have hO : OC (up σ 370 k (ι l.length)) l → True := fun _ => trivial
  obtain ⟨r1, r2, r3, r4, r5⟩ : _ := OC_rows (k, none) h (r := _) rfl
  refine ⟨_, rfl, ⟨?_, fun p e' hp => ?_, fun k' hk' => ?_, fun s w hs hw => ?_⟩, fun j hj => ?_⟩
  · rw [up_e, List.length_append]; rfl
  · obtain ⟨z1, z2, z3, z4⟩ := r2 p e' hp
    refine ⟨?_, ?_, ?_, ?_⟩
    · rw [← z1]; simp (disch := omega) only [up_g, if_pos, if_neg, true_and, and_true, false_and, and_false, if_true, if_false, reduceIte]; rfl
    · rw [← z2]; simp (disch := omega) only [up_g, if_pos, if_neg, true_and, and_true, false_and, and_false, if_true, if_false, reduceIte]; rfl
    · rw [← z3]; simp (disch := omega) only [up_g, if_pos, if_neg, true_and, and_true, false_and, and_false, if_true, if_false, reduceIte]; rfl
    · rw [← z4]; simp (disch := omega) only [up_g, if_pos, if_neg, true_and, and_true, false_and, and_false, if_true, if_false, reduceIte]; rfl
  · by_cases hkk : k' = k
    · subst hkk
      rw [ix_app_yes (by simp [isL])]
      · simp (disch := omega) only [up_e, up_j, up_k, Nat.reduceAdd, Nat.add_zero]; rfl
      · intro e he
        refine decide_eq_false fun z => hu e he ?_
        rw [z]; rfl
    · rw [ix_app_no (decide_eq_false fun z => hkk (by cases z; rfl))]
      simp (disch := omega) only [up_e, up_j, up_k, Nat.reduceAdd, Nat.add_zero]
      exact h.2.2.1 k' hk'
  · rw [ix_app_no (decide_eq_false fun z => by cases z)]
    simp (disch := omega) only [up_e, up_j, up_k, Nat.reduceAdd, Nat.add_zero]
    exact h.2.2.2 s w hs hw
  · simp (disch := omega) only [up_e, up_j, up_k, Nat.reduceAdd, Nat.add_zero]
theorem c_addS {σ : Mem} {l : List En} {k s w : Nat} (hk : k < 120) (hs : s < 12) (hw : w < 2) (h : OC σ l) (hl : l.length < 144) (hu : ∀ e, e ∈ l → eK e ≠ .inr (s, w)) : ∃ ρ, ((fX3_put (360 + 11) (ι (2 * s + w)) (σ 360 6) σ).bind fun v76 => fX2_add 360 (ι (k / 2)) (ι (k % 2)) (ι s) (ι w) v76) = some ρ ∧ OC ρ (l ++ [(k, some (s, w))]) ∧ frO σ ρ := by
  have h1 := h.1
  have p1 : fX3_put (360 + 11) (ι (2 * s + w)) (σ 360 6) σ = some (up σ 372 (2 * s + w) (ι l.length)) := by rw [h1]; exact c_put ln372 (by omega) (by omega)
  rw [p1, Option.bind_some, c_oadd (p := l.length) (by simp (disch := omega) only [up_e, up_j, up_k, Nat.reduceAdd, Nat.add_zero]; exact h1) hl]
  obtain ⟨r1, r2, r3, r4, r5⟩ : _ := OC_rows (k, some (s, w)) h (r := _) rfl
  refine ⟨_, rfl, ⟨?_, fun p e' hp => ?_, fun k' hk' => ?_, fun s' w' hs' hw' => ?_⟩, fun j hj => ?_⟩
  · rw [up_e, List.length_append]; rfl
  · obtain ⟨z1, z2, z3, z4⟩ := r2 p e' hp
    refine ⟨?_, ?_, ?_, ?_⟩
    · rw [← z1]; simp (disch := omega) only [up_g, if_pos, if_neg, true_and, and_true, false_and, and_false, if_true, if_false, reduceIte]; rfl
    · rw [← z2]; simp (disch := omega) only [up_g, if_pos, if_neg, true_and, and_true, false_and, and_false, if_true, if_false, reduceIte]; rfl
    · rw [← z3]; simp (disch := omega) only [up_g, if_pos, if_neg, true_and, and_true, false_and, and_false, if_true, if_false, reduceIte]; rfl
    · rw [← z4]; simp (disch := omega) only [up_g, if_pos, if_neg, true_and, and_true, false_and, and_false, if_true, if_false, reduceIte]; rfl
  · rw [ix_app_no (decide_eq_false fun z => by cases z)]
    simp (disch := omega) only [up_e, up_j, up_k, Nat.reduceAdd, Nat.add_zero]
    exact h.2.2.1 k' hk'
  · by_cases hkk : s' = s ∧ w' = w
    · obtain ⟨z1, z2⟩ := hkk
      subst z1 z2
      rw [ix_app_yes (by simp [isS])]
      · simp (disch := omega) only [up_e, up_j, up_k, Nat.reduceAdd, Nat.add_zero]; rfl
      · intro e he
        refine decide_eq_false fun z => hu e he ?_
        unfold eK; rw [z]
    · rw [ix_app_no (decide_eq_false fun z => hkk (by cases z; exact ⟨rfl, rfl⟩))]
      simp (disch := omega) only [up_e, up_j, up_k, Nat.reduceAdd, Nat.add_zero]
      exact h.2.2.2 s' w' hs' hw'
  · simp (disch := omega) only [up_e, up_j, up_k, Nat.reduceAdd, Nat.add_zero]
theorem pw_not {l r : List En} {e : En} (h : (l ++ e :: r).Pairwise (fun x y => eK x ≠ eK y)) : ∀ x, x ∈ l → eK x ≠ eK e := fun x hx => (List.pairwise_append.mp h).2.2 x hx e (List.mem_cons_self ..)
theorem VR_fr {σ ρ : Mem} {q F : Nat → Int32} {k n a : Nat} (hn : n ≤ 60) (ha : a ≤ 12) (hV : VR σ 42 q k n a F) (h : frO σ ρ) : VR ρ 42 q k n a F := VR_c hn ha hV (fun j hj => h _ (by omega)) (fun _ _ => rfl)
theorem c_l50 {F q : Nat → Int32} {k₀ n a k s ws : Nat} (hn : n ≤ 60) (ha : a ≤ 12) (hk : k < 120) (hs : s < a) (hw : F (5 + 3 * s + 2) = ι ws) (hw2 : ws ≤ 2) : ∀ m n' w (σ : Mem) l r, w + m = ws → m < n' → VR σ 42 q k₀ n a F → OC σ l → (l ++ fl (fun w => [(k, some (s, w))]) w m ++ r).length ≤ 144 → (l ++ fl (fun w => [(k, some (s, w))]) w m ++ r).Pairwise (fun x y => eK x ≠ eK y) → ∃ z ρ, fX2_addSide_l50 360 42 (ι (k / 2)) (ι (k % 2)) (ι s) n' (ι w) σ = some (z, ρ) ∧ OC ρ (l ++ fl (fun w => [(k, some (s, w))]) w m) ∧ frO σ ρ := by
  intro m
  induction m with
  | zero =>
    intro n' w σ l r h hn' hV hO hl hp
    obtain ⟨n', rfl⟩ : ∃ k, n' = k + 1 := ⟨n' - 1, by omega⟩
    refine ⟨ι w, σ, ?_, ?_, frO_refl σ⟩
    · rw [fX2_addSide_l50]
      unfold fX10_sidesOfSlip
      rw [c_at hV.1.2.2.2.2 (by omega) (by omega), hV.2.2.2.2.2.2.2.2 s hs, hw]
      simp (disch := omega) only [l_0, l_1, l_2, l_3, l_4, l_5, l_6, l_7, l_8, l_9, l_10, l_12, l_13, l_24, l_31, l_32, l_40, l_41, l_42, l_44, l_45, l_48, l_49, l_50, l_57, l_59, l_60, l_65, l_88, l_89, l_97, l_98, l_99, l_100, l_105, l_108, l_109, l_114, l_118, l_120, l_122, l_144, l_255, l_269, l_279, l_339, l_400, l_600, l_999, l_1000, l_2373, l_2712, ι_lt, ι_le, ι_eq, ι_add, ι_mul, ι_sub, ι_div, ι_n, ι_m1, m1_ι, m1_lt, m1_le, lt_m1, le_m1, m1_lt_m1, m1_le_m1, m1_add1, neg_ι1, ι_addm, ι_addn, Bool.false_eq_true, Nat.not_lt_zero, Nat.add_zero, Nat.zero_add, Nat.mul_zero, Nat.reduceMul, Nat.reduceAdd, Nat.reduceSub, Nat.reduceLT, Nat.reduceLeDiff, Nat.reduceEqDiff, Nat.reduceDiv, Nat.reduceBEq, Nat.reduceBNe, false_or, or_false, true_or, or_true, and_true, true_and, false_and, and_false, not_false_eq_true, not_true_eq_false, if_true, if_false, if_pos, if_neg, Option.bind_some, ite_false, ite_true, eq_self, reduceIte]
    · rw [fl, List.append_nil]; exact hO
  | succ m ih =>
    intro n' w σ l r h hn' hV hO hl hp
    obtain ⟨n', rfl⟩ : ∃ k, n' = k + 1 := ⟨n' - 1, by omega⟩
    rw [fl] at hl hp
    have hl' := hl
    simp only [List.length_append, List.length_cons, List.length_nil] at hl'
    obtain ⟨ρ, a1, a2, a3⟩ := c_addS (k := k) (s := s) (w := w) hk (by omega) (by omega) hO (by omega) (fun e he => by
      have := pw_not (e := (k, some (s, w))) (l := l) (r := fl (fun w => [(k, some (s, w))]) (w + 1) m ++ r) (by simpa using hp) e he
      exact this)
    have hV' := VR_fr hn ha hV a3
    obtain ⟨z, ω, b1, b2, b3⟩ := ih n' (w + 1) ρ (l ++ [(k, some (s, w))]) r (by omega) (by omega) hV' a2 (by simpa [List.append_assoc] using hl) (by simpa [List.append_assoc] using hp)
    refine ⟨z, ω, ?_, ?_, frO_trans a3 b3⟩
    · rw [fX2_addSide_l50]
      unfold fX10_sidesOfSlip
      rw [c_at hV.1.2.2.2.2 (by omega) (by omega), hV.2.2.2.2.2.2.2.2 s hs, hw]
      simp (disch := omega) only [ι_le, l_2, l_1, ι_mul, ι_add, Option.bind_some, if_neg]
      rw [← Option.bind_assoc, a1]
      exact b1
    · rw [fl]
      rw [List.append_assoc] at b2
      exact b2
theorem c_l27 {F q : Nat → Int32} {k₀ n a k : Nat} (hn : n ≤ 60) (ha : a ≤ 12) (hk : k < 120) (hS : ∀ s, s < a → SlI n F s) : ∀ m n' s (σ : Mem) l r, s + m = a → m < n' → VR σ 42 q k₀ n a F → OC σ l → (l ++ fl (slE F k) s m ++ r).length ≤ 144 → (l ++ fl (slE F k) s m ++ r).Pairwise (fun x y => eK x ≠ eK y) → ∃ z ρ, fX2_addSide_l27 360 42 (ι (k / 2)) (ι (k % 2)) n' (ι s) σ = some (z, ρ) ∧ OC ρ (l ++ fl (slE F k) s m) ∧ frO σ ρ := by
  intro m
  induction m with
  | zero =>
    intro n' s σ l r h hn' hV hO hl hp
    obtain ⟨n', rfl⟩ : ∃ k, n' = k + 1 := ⟨n' - 1, by omega⟩
    refine ⟨ι s, σ, ?_, ?_, frO_refl σ⟩
    · rw [fX2_addSide_l27]
      unfold fX10_slipCount
      simp (disch := omega) only [l_0, l_1, l_2, l_3, l_4, l_5, l_6, l_7, l_8, l_9, l_10, l_12, l_13, l_24, l_31, l_32, l_40, l_41, l_42, l_44, l_45, l_48, l_49, l_50, l_57, l_59, l_60, l_65, l_88, l_89, l_97, l_98, l_99, l_100, l_105, l_108, l_109, l_114, l_118, l_120, l_122, l_144, l_255, l_269, l_279, l_339, l_400, l_600, l_999, l_1000, l_2373, l_2712, ι_lt, ι_le, ι_eq, ι_add, ι_mul, ι_sub, ι_div, ι_n, ι_m1, m1_ι, m1_lt, m1_le, lt_m1, le_m1, m1_lt_m1, m1_le_m1, m1_add1, neg_ι1, ι_addm, ι_addn, Bool.false_eq_true, Nat.not_lt_zero, Nat.add_zero, Nat.zero_add, Nat.mul_zero, Nat.reduceMul, Nat.reduceAdd, Nat.reduceSub, Nat.reduceLT, Nat.reduceLeDiff, Nat.reduceEqDiff, Nat.reduceDiv, Nat.reduceBEq, Nat.reduceBNe, false_or, or_false, true_or, or_true, and_true, true_and, false_and, and_false, not_false_eq_true, not_true_eq_false, if_true, if_false, if_pos, if_neg, Option.bind_some, ite_false, ite_true, eq_self, reduceIte, hV.2.2.2.1]
    · rw [fl, List.append_nil]; exact hO
  | succ m ih =>
    intro n' s σ l r h hn' hV hO hl hp
    obtain ⟨n', rfl⟩ : ∃ k, n' = k + 1 := ⟨n' - 1, by omega⟩
    obtain ⟨ws, w1, w2⟩ : ∃ ws, F (5 + 3 * s + 2) = ι ws ∧ ws ≤ 2 := by
      rcases (hS s (by omega)).2 with z | z
      · exact ⟨1, z, by omega⟩
      · exact ⟨2, z, by omega⟩
    have hnn : nn (F (5 + 3 * s + 2)) = ws := by rw [w1, nn_ι (by omega)]
    have hne : ι (k / 2) ≠ μ := fun z => by rw [ι_m1 (by omega)] at z; exact z
    rw [fl] at hl hp
    by_cases ho : onK F k s = true
    · have hsl : slE F k s = fl (fun w => [(k, some (s, w))]) 0 ws := by unfold slE; rw [if_pos ho, hnn]
      rw [hsl] at hl hp
      obtain ⟨z, ρ, a1, a2, a3⟩ := c_l50 hn ha hk (show s < a by omega) w1 w2 ws FU 0 σ l (fl (slE F k) (s + 1) m ++ r) (by omega) (by unfold FU; omega) hV hO (by simpa [List.append_assoc] using hl) (by simpa [List.append_assoc] using hp)
      have hV' := VR_fr hn ha hV a3
      obtain ⟨z', ω, b1, b2, b3⟩ := ih n' (s + 1) ρ (l ++ fl (fun w => [(k, some (s, w))]) 0 ws) r (by omega) (by omega) hV' a2 (by simpa [List.append_assoc] using hl) (by simpa [List.append_assoc] using hp)
      refine ⟨z', ω, ?_, ?_, frO_trans a3 b3⟩
      · rw [fX2_addSide_l27, c_isSlipOn ha hV (by omega) hne]
        unfold fX10_slipCount
        have ho' : onB F (ι (k / 2)) (ι (k % 2)) s = true := ho
        simp (disch := omega) only [l_0, l_1, l_2, l_3, l_4, l_5, l_6, l_7, l_8, l_9, l_10, l_12, l_13, l_24, l_31, l_32, l_40, l_41, l_42, l_44, l_45, l_48, l_49, l_50, l_57, l_59, l_60, l_65, l_88, l_89, l_97, l_98, l_99, l_100, l_105, l_108, l_109, l_114, l_118, l_120, l_122, l_144, l_255, l_269, l_279, l_339, l_400, l_600, l_999, l_1000, l_2373, l_2712, ι_lt, ι_le, ι_eq, ι_add, ι_mul, ι_sub, ι_div, ι_n, ι_m1, m1_ι, m1_lt, m1_le, lt_m1, le_m1, m1_lt_m1, m1_le_m1, m1_add1, neg_ι1, ι_addm, ι_addn, Bool.false_eq_true, Nat.not_lt_zero, Nat.add_zero, Nat.zero_add, Nat.mul_zero, Nat.reduceMul, Nat.reduceAdd, Nat.reduceSub, Nat.reduceLT, Nat.reduceLeDiff, Nat.reduceEqDiff, Nat.reduceDiv, Nat.reduceBEq, Nat.reduceBNe, false_or, or_false, true_or, or_true, and_true, true_and, false_and, and_false, not_false_eq_true, not_true_eq_false, if_true, if_false, if_pos, if_neg, Option.bind_some, ite_false, ite_true, eq_self, reduceIte, hV.2.2.2.1, ho', a1]
        exact b1
      · rw [fl, hsl, ← List.append_assoc]; exact b2
    · have hsl : slE F k s = [] := by unfold slE; rw [if_neg ho]
      rw [hsl, List.nil_append] at hl hp
      obtain ⟨z', ω, b1, b2, b3⟩ := ih n' (s + 1) σ l r (by omega) (by omega) hV hO hl hp
      refine ⟨z', ω, ?_, ?_, b3⟩
      · rw [fX2_addSide_l27, c_isSlipOn ha hV (by omega) hne]
        unfold fX10_slipCount
        have ho' : ¬ onB F (ι (k / 2)) (ι (k % 2)) s = true := ho
        simp (disch := omega) only [l_0, l_1, l_2, l_3, l_4, l_5, l_6, l_7, l_8, l_9, l_10, l_12, l_13, l_24, l_31, l_32, l_40, l_41, l_42, l_44, l_45, l_48, l_49, l_50, l_57, l_59, l_60, l_65, l_88, l_89, l_97, l_98, l_99, l_100, l_105, l_108, l_109, l_114, l_118, l_120, l_122, l_144, l_255, l_269, l_279, l_339, l_400, l_600, l_999, l_1000, l_2373, l_2712, ι_lt, ι_le, ι_eq, ι_add, ι_mul, ι_sub, ι_div, ι_n, ι_m1, m1_ι, m1_lt, m1_le, lt_m1, le_m1, m1_lt_m1, m1_le_m1, m1_add1, neg_ι1, ι_addm, ι_addn, Bool.false_eq_true, Nat.not_lt_zero, Nat.add_zero, Nat.zero_add, Nat.mul_zero, Nat.reduceMul, Nat.reduceAdd, Nat.reduceSub, Nat.reduceLT, Nat.reduceLeDiff, Nat.reduceEqDiff, Nat.reduceDiv, Nat.reduceBEq, Nat.reduceBNe, false_or, or_false, true_or, or_true, and_true, true_and, false_and, and_false, not_false_eq_true, not_true_eq_false, if_true, if_false, if_pos, if_neg, Option.bind_some, ite_false, ite_true, eq_self, reduceIte, hV.2.2.2.1, ho']
        exact b1
      · rw [fl, hsl, List.nil_append]; exact b2
theorem c_addSide {F q : Nat → Int32} {k₀ n a k : Nat} (hn : n ≤ 60) (ha : a ≤ 12) (hk : k < 120) (hS : ∀ s, s < a → SlI n F s) (σ : Mem) (l r : List En) (hV : VR σ 42 q k₀ n a F) (hO : OC σ l) (hl : (l ++ sdE F a k ++ r).length ≤ 144) (hp : (l ++ sdE F a k ++ r).Pairwise (fun x y => eK x ≠ eK y)) {x y : Int32} (hx : x = ι (k / 2)) (hy : y = ι (k % 2)) : ∃ ρ, fX2_addSide 360 42 x y σ = some ρ ∧ OC ρ (l ++ sdE F a k) ∧ frO σ ρ := by
  subst hx hy
  unfold sdE at hl hp ⊢
  have hl' := hl
  simp only [List.length_append, List.length_cons] at hl'
  have hp' : (l ++ (k, none) :: (fl (slE F k) 0 a ++ r)).Pairwise (fun x y => eK x ≠ eK y) := by simpa [List.append_assoc] using hp
  obtain ⟨ρ, a1, a2, a3⟩ := c_addL (k := k) hk hO (by omega) (fun e he => pw_not hp' e he)
  have hV' := VR_fr hn ha hV a3
  obtain ⟨z, ω, b1, b2, b3⟩ := c_l27 hn ha hk hS a FU 0 ρ (l ++ [(k, none)]) r (by omega) (by unfold FU; omega) hV' a2 (by simpa [List.append_assoc] using hl) (by simpa [List.append_assoc] using hp)
  refine ⟨ω, ?_, ?_, frO_trans a3 b3⟩
  · unfold fX2_addSide
    have e : (2 : Int32) * ι (k / 2) + ι (k % 2) = ι k := by
      rw [l_2, ι_mul, ι_add]; congr 1; omega
    rw [e, ← Option.bind_assoc]
    have e1 : (-1 : Int32) = μ := rfl
    rw [e1, a1, Option.bind_some, l_0, b1]; rfl
  · rw [List.append_assoc] at b2; exact b2
theorem c_l23 {F q : Nat → Int32} {k₀ n a : Nat} (hn : n ≤ 60) (ha : a ≤ 12) (hS : ∀ s, s < a → SlI n F s) : ∀ m n' i (σ : Mem) l, i + m = n → m < n' → VR σ 42 q k₀ n a F → OC σ l → (l ++ fl (fun x => kE F a (2 * x) ++ kE F a (2 * x + 1)) i m).length ≤ 144 → (l ++ fl (fun x => kE F a (2 * x) ++ kE F a (2 * x + 1)) i m).Pairwise (fun x y => eK x ≠ eK y) → ∃ z ρ, fX2_follow_l23 360 42 n' (ι i) σ = some (z, ρ) ∧ OC ρ (l ++ fl (fun x => kE F a (2 * x) ++ kE F a (2 * x + 1)) i m) ∧ frO σ ρ := by
  intro m
  induction m with
  | zero =>
    intro n' i σ l h hn' hV hO hl hp
    obtain ⟨n', rfl⟩ : ∃ k, n' = k + 1 := ⟨n' - 1, by omega⟩
    refine ⟨ι i, σ, ?_, ?_, frO_refl σ⟩
    · rw [fX2_follow_l23]
      unfold fX10_leafCount
      simp (disch := omega) only [l_0, l_1, l_2, l_3, l_4, l_5, l_6, l_7, l_8, l_9, l_10, l_12, l_13, l_24, l_31, l_32, l_40, l_41, l_42, l_44, l_45, l_48, l_49, l_50, l_57, l_59, l_60, l_65, l_88, l_89, l_97, l_98, l_99, l_100, l_105, l_108, l_109, l_114, l_118, l_120, l_122, l_144, l_255, l_269, l_279, l_339, l_400, l_600, l_999, l_1000, l_2373, l_2712, ι_lt, ι_le, ι_eq, ι_add, ι_mul, ι_sub, ι_div, ι_n, ι_m1, m1_ι, m1_lt, m1_le, lt_m1, le_m1, m1_lt_m1, m1_le_m1, m1_add1, neg_ι1, ι_addm, ι_addn, Bool.false_eq_true, Nat.not_lt_zero, Nat.add_zero, Nat.zero_add, Nat.mul_zero, Nat.reduceMul, Nat.reduceAdd, Nat.reduceSub, Nat.reduceLT, Nat.reduceLeDiff, Nat.reduceEqDiff, Nat.reduceDiv, Nat.reduceBEq, Nat.reduceBNe, false_or, or_false, true_or, or_true, and_true, true_and, false_and, and_false, not_false_eq_true, not_true_eq_false, if_true, if_false, if_pos, if_neg, Option.bind_some, ite_false, ite_true, eq_self, reduceIte, hV.2.2.1]
    · rw [fl, List.append_nil]; exact hO
  | succ m ih =>
    intro n' i σ l h hn' hV hO hl hp
    obtain ⟨n', rfl⟩ : ∃ k, n' = k + 1 := ⟨n' - 1, by omega⟩
    rw [fl] at hl hp
    have d1 : 2 * i / 2 = i := by omega
    have d2 : (2 * i + 1) / 2 = i := by omega
    by_cases hpr : pB F i = true
    · have k1 : kE F a (2 * i) = sdE F a (2 * i) := by unfold kE; rw [d1, if_pos hpr]
      have k2 : kE F a (2 * i + 1) = sdE F a (2 * i + 1) := by unfold kE; rw [d2, if_pos hpr]
      simp only [k1, k2] at hl hp
      obtain ⟨ρ, a1, a2, a3⟩ := c_addSide (k := 2 * i) hn ha (by omega) hS σ l (sdE F a (2 * i + 1) ++ fl (fun x => kE F a (2 * x) ++ kE F a (2 * x + 1)) (i + 1) m) hV hO (by simpa [List.append_assoc] using hl) (by simpa [List.append_assoc] using hp) (x := ι i) (y := ι 0) (by rw [d1]) (by congr 1; omega)
      have hV' := VR_fr hn ha hV a3
      obtain ⟨ω, b1, b2, b3⟩ := c_addSide (k := 2 * i + 1) hn ha (by omega) hS ρ (l ++ sdE F a (2 * i)) (fl (fun x => kE F a (2 * x) ++ kE F a (2 * x + 1)) (i + 1) m) hV' a2 (by simpa [List.append_assoc] using hl) (by simpa [List.append_assoc] using hp) (x := ι i) (y := ι 1) (by rw [d2]) (by congr 1; omega)
      have hV'' := VR_fr hn ha hV' b3
      obtain ⟨z, ψ, c1, c2, c3⟩ := ih n' (i + 1) ω (l ++ sdE F a (2 * i) ++ sdE F a (2 * i + 1)) (by omega) (by omega) hV'' b2 (by simpa [List.append_assoc] using hl) (by simpa [List.append_assoc] using hp)
      refine ⟨z, ψ, ?_, ?_, frO_trans (frO_trans a3 b3) c3⟩
      · rw [fX2_follow_l23, c_isPresent hn hV (by omega)]
        unfold fX10_leafCount
        simp (disch := omega) only [l_0, l_1, l_2, l_3, l_4, l_5, l_6, l_7, l_8, l_9, l_10, l_12, l_13, l_24, l_31, l_32, l_40, l_41, l_42, l_44, l_45, l_48, l_49, l_50, l_57, l_59, l_60, l_65, l_88, l_89, l_97, l_98, l_99, l_100, l_105, l_108, l_109, l_114, l_118, l_120, l_122, l_144, l_255, l_269, l_279, l_339, l_400, l_600, l_999, l_1000, l_2373, l_2712, ι_lt, ι_le, ι_eq, ι_add, ι_mul, ι_sub, ι_div, ι_n, ι_m1, m1_ι, m1_lt, m1_le, lt_m1, le_m1, m1_lt_m1, m1_le_m1, m1_add1, neg_ι1, ι_addm, ι_addn, Bool.false_eq_true, Nat.not_lt_zero, Nat.add_zero, Nat.zero_add, Nat.mul_zero, Nat.reduceMul, Nat.reduceAdd, Nat.reduceSub, Nat.reduceLT, Nat.reduceLeDiff, Nat.reduceEqDiff, Nat.reduceDiv, Nat.reduceBEq, Nat.reduceBNe, false_or, or_false, true_or, or_true, and_true, true_and, false_and, and_false, not_false_eq_true, not_true_eq_false, if_true, if_false, if_pos, if_neg, Option.bind_some, ite_false, ite_true, eq_self, reduceIte, hV.2.2.1, hpr, a1, b1]
        exact c1
      · rw [fl]
        simp only [k1, k2]
        simpa [List.append_assoc] using c2
    · have k1 : kE F a (2 * i) = [] := by unfold kE; rw [d1, if_neg hpr]
      have k2 : kE F a (2 * i + 1) = [] := by unfold kE; rw [d2, if_neg hpr]
      simp only [k1, k2, List.nil_append] at hl hp
      obtain ⟨z, ψ, c1, c2, c3⟩ := ih n' (i + 1) σ l (by omega) (by omega) hV hO hl hp
      refine ⟨z, ψ, ?_, ?_, c3⟩
      · rw [fX2_follow_l23, c_isPresent hn hV (by omega)]
        unfold fX10_leafCount
        simp (disch := omega) only [l_0, l_1, l_2, l_3, l_4, l_5, l_6, l_7, l_8, l_9, l_10, l_12, l_13, l_24, l_31, l_32, l_40, l_41, l_42, l_44, l_45, l_48, l_49, l_50, l_57, l_59, l_60, l_65, l_88, l_89, l_97, l_98, l_99, l_100, l_105, l_108, l_109, l_114, l_118, l_120, l_122, l_144, l_255, l_269, l_279, l_339, l_400, l_600, l_999, l_1000, l_2373, l_2712, ι_lt, ι_le, ι_eq, ι_add, ι_mul, ι_sub, ι_div, ι_n, ι_m1, m1_ι, m1_lt, m1_le, lt_m1, le_m1, m1_lt_m1, m1_le_m1, m1_add1, neg_ι1, ι_addm, ι_addn, Bool.false_eq_true, Nat.not_lt_zero, Nat.add_zero, Nat.zero_add, Nat.mul_zero, Nat.reduceMul, Nat.reduceAdd, Nat.reduceSub, Nat.reduceLT, Nat.reduceLeDiff, Nat.reduceEqDiff, Nat.reduceDiv, Nat.reduceBEq, Nat.reduceBNe, false_or, or_false, true_or, or_true, and_true, true_and, false_and, and_false, not_false_eq_true, not_true_eq_false, if_true, if_false, if_pos, if_neg, Option.bind_some, ite_false, ite_true, eq_self, reduceIte, hV.2.2.1, hpr]
        exact c1
      · rw [fl]
        simp only [k1, k2, List.nil_append]
        exact c2
theorem c_fill_l {o L : Nat} {x : Int32} (hL : ln o = L) (h6 : L ≤ 600) : ∀ m n i (σ : Mem), i + m = L → m < n → fJ7_fill_53178_l5 o x (ι L) n (ι i) σ = some (ι L, fun k j => if k = o ∧ i ≤ j ∧ j < L then x else σ k j) := by
  intro m
  induction m with
  | zero =>
    intro n i σ h hn
    obtain ⟨n, rfl⟩ : ∃ k, n = k + 1 := ⟨n - 1, by omega⟩
    rw [fJ7_fill_53178_l5]
    have e : i = L := by omega
    subst e
    rw [if_pos (by rw [ι_le (by omega) (by omega)]; omega)]
    refine congrArg some (Prod.ext rfl (funext fun k => funext fun j => ?_))
    show σ k j = (if k = o ∧ i ≤ j ∧ j < i then x else σ k j)
    rw [if_neg (by omega)]
  | succ m ih =>
    intro n i σ h hn
    obtain ⟨n, rfl⟩ : ∃ k, n = k + 1 := ⟨n - 1, by omega⟩
    rw [fJ7_fill_53178_l5]
    simp (disch := omega) only [l_0, l_1, l_2, l_3, l_4, l_5, l_6, l_7, l_8, l_9, l_10, l_12, l_13, l_24, l_31, l_32, l_40, l_41, l_42, l_44, l_45, l_48, l_49, l_50, l_57, l_59, l_60, l_65, l_88, l_89, l_97, l_98, l_99, l_100, l_105, l_108, l_109, l_114, l_118, l_120, l_122, l_144, l_255, l_269, l_279, l_339, l_400, l_600, l_999, l_1000, l_2373, l_2712, ι_lt, ι_le, ι_eq, ι_add, ι_mul, ι_sub, ι_div, ι_n, ι_m1, m1_ι, m1_lt, m1_le, lt_m1, le_m1, m1_lt_m1, m1_le_m1, m1_add1, neg_ι1, ι_addm, ι_addn, Bool.false_eq_true, Nat.not_lt_zero, Nat.add_zero, Nat.zero_add, Nat.mul_zero, Nat.reduceMul, Nat.reduceAdd, Nat.reduceSub, Nat.reduceLT, Nat.reduceLeDiff, Nat.reduceEqDiff, Nat.reduceDiv, Nat.reduceBEq, Nat.reduceBNe, false_or, or_false, true_or, or_true, and_true, true_and, false_and, and_false, not_false_eq_true, not_true_eq_false, if_true, if_false, if_pos, if_neg, Option.bind_some, ite_false, ite_true, eq_self, reduceIte, hL]
    rw [ih _ _ _ (by omega) (by omega)]
    refine congrArg some (Prod.ext rfl (funext fun k => funext fun j => ?_))
    show (if _ then _ else _) = (if _ then _ else _)
    simp only [up_g]
    by_cases hk : k = o
    · subst hk
      by_cases h1 : j = i
      · subst h1
        rw [if_neg (by omega), if_pos ⟨rfl, rfl⟩, if_pos (by omega)]
      · by_cases h2 : i ≤ j ∧ j < L
        · rw [if_pos (by omega), if_pos (by omega)]
        · rw [if_neg (by omega), if_neg (by omega), if_neg (by omega)]
    · rw [if_neg (by omega), if_neg (by omega), if_neg (by omega)]
theorem c_fill {o L : Nat} {x : Int32} {σ : Mem} (hL : ln (o + 1) = L) (h6 : L ≤ 600) : fX3_fill o x σ = some (fun k j => if k = o + 1 ∧ j < L then x else σ k j) := by
  unfold fX3_fill fJ7_fill_53178
  have e : Int32.ofNat (ln (o + 1)) = ι L := by rw [hL]; rfl
  rw [e, l_0, c_fill_l hL h6 L FU 0 σ (by omega) (by unfold FU; omega), Option.bind_some, Option.bind_some]
  refine congrArg some (funext fun k => funext fun j => ?_)
  show (if _ then _ else _) = (if _ then _ else _)
  simp only [Nat.zero_le, true_and]
theorem c_order {σ : Mem} {q F : Nat → Int32} {k n a : Nat} (hn : n ≤ 60) (ha : a ≤ 12) (hS : ∀ s, s < a → SlI n F s) (hV : VR σ 42 q k n a F) : ∃ ρ, fX2_follow 360 42 σ = some ρ ∧ OC ρ (ordE F n a) ∧ frO σ ρ := by
  have e : ordE F n a = fl (fun x => kE F a (2 * x) ++ kE F a (2 * x + 1)) 0 n := fl_two (kE F a) n 0
  have hlen := ordE_len hn ha hS
  have hpw := ordE_nodup hn hS
  rw [e] at hlen hpw
  unfold fX2_follow
  have em : (-1 : Int32) = μ := rfl
  rw [em, l_0, c_fill ln370 (by omega), Option.bind_some, c_fill ln372 (by omega), Option.bind_some]
  generalize hω : (fun k j => if k = 360 + 11 + 1 ∧ j < 24 then μ else (fun k j => if k = 360 + 9 + 1 ∧ j < 120 then μ else up σ 360 6 (ι 0) k j : Mem) k j : Mem) = ω
  have w1 : frO σ ω := fun j hj => by
    subst hω; funext i
    simp (disch := omega) only [up_g, if_pos, if_neg, true_and, and_true, false_and, and_false, if_true, if_false, reduceIte]
  have w2 : OC ω [] := by
    subst hω
    refine ⟨?_, fun p e h => by simp at h, fun k hk => ?_, fun s w hs hw => ?_⟩
    · simp (disch := omega) only [up_g, if_pos, if_neg, true_and, and_true, false_and, and_false, if_true, if_false, reduceIte]; rfl
    · simp (disch := omega) only [up_g, if_pos, if_neg, true_and, and_true, false_and, and_false, if_true, if_false, reduceIte]; rfl
    · simp (disch := omega) only [up_g, if_pos, if_neg, true_and, and_true, false_and, and_false, if_true, if_false, reduceIte]; rfl
  obtain ⟨z, ρ, a1, a2, a3⟩ := c_l23 hn ha hS n FU 0 ω [] (by omega) (by unfold FU; omega) (VR_fr hn ha hV w1) w2 hlen hpw
  refine ⟨ρ, ?_, ?_, frO_trans w1 a3⟩
  · rw [a1]; rfl
  · rw [e]; exact a2
