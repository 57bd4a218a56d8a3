/-! PURE PART: labels of places, what is formatted -/
def slW (F : Nat → Int32) (e : En) : List Nat := match e.2 with | none => [] | some p => [42] ++ ([97 + cf (onB F (ι (e.1 / 2)) (ι (e.1 % 2))) 0 p.1] ++ (if p.2 = 1 then [118] else []))
def plW (F : Nat → Int32) (b : Nat) (e : En) : List Nat := labW F b (e.1 / 2) (e.1 % 2) ++ slW F e
theorem OC_f {σ ρ : Mem} {E : List En} (h : OC σ E) (hf : ∀ j, 360 ≤ j → ρ j = σ j) : OC ρ E := by
  unfold OC
  rw [hf 360 (by omega), hf 362 (by omega), hf 364 (by omega), hf 366 (by omega), hf 368 (by omega), hf 370 (by omega), hf 372 (by omega)]
  exact h
def LX (σ τ : Mem) (F q : Nat → Int32) (k n a b : Nat) (E : List En) : Prop := (n ≤ 60 ∧ a ≤ 12 ∧ b ≤ 12) ∧ VR σ 42 q k n a F ∧ LR σ 53 b F ∧ OC σ E ∧ E = ordE F n a ∧ E.length ≤ 144 ∧ (∀ s, s < a → SlI n F s) ∧ (∀ r, r < b → RgI n F r) ∧ τ 3 = F ∧ F 1 = ι b ∧ Ro τ ∧ OT τ E ∧ Tx σ 35 ∧ Tx σ 37 ∧ Tx σ 39
def TO (o : Nat) : Prop := o = 35 ∨ o = 37 ∨ o = 39
theorem TO_ln {o : Nat} (h : TO o) : 32 ≤ ln (o + 1) ∧ ln (o + 1) ≤ 600 := by
  rcases h with rfl | rfl | rfl
  · rw [ln36]; omega
  · rw [ln38]; omega
  · rw [ln40]; omega
theorem LX_c {σ τ ρ υ : Mem} {F q : Nat → Int32} {k n a b o : Nat} {E : List En} (h : LX σ τ F q k n a b E) (ho : TO o) (hσ : frT o σ ρ) (hT : Tx ρ o) (hτ : ∀ k j, k = 3 ∨ k = 8 ∨ k = 11 ∨ (k = 0 ∧ j = 17) → υ k j = τ k j) : LX ρ υ F q k n a b E := by
  obtain ⟨⟨h1, h2, h3⟩, h4, h5, h6, h7, h8, h9, h10, h11, h12, h13, h14, h15, h16, h17⟩ := h
  have f : ∀ j, 41 ≤ j → ρ j = σ j := fun j hj => hσ j (by unfold TO at ho; omega) (by unfold TO at ho; omega)
  have tx : ∀ o', Tx σ o' → TO o' → Tx ρ o' := fun o' hx ho' => by
    by_cases e : o' = o
    · rw [e]; exact hT
    · exact Tx_c hx (hσ o' e (by unfold TO at ho ho'; omega))
  refine ⟨⟨h1, h2, h3⟩, VR_c h1 h2 h4 (fun j hj => f _ (by omega)) (fun _ _ => rfl), LR_c h3 h5 (fun j hj => f _ (by omega)) (fun _ _ => rfl), OC_f h6 (fun j hj => f j (by omega)), h7, h8, h9, h10, ?_, h12, ?_, ?_, tx 35 h15 (Or.inl rfl), tx 37 h16 (Or.inr (Or.inl rfl)), tx 39 h17 (Or.inr (Or.inr rfl))⟩
  · rw [← h11]; exact funext fun j => hτ 3 j (by omega)
  · exact fun i hi => (hτ 11 i (by omega)).trans (h13 i hi)
  · exact OT_c h14 (funext fun j => hτ 8 j (by omega)) (hτ 0 17 (by omega))
theorem onK_vals {F : Nat → Int32} {k s : Nat} (h : onK F k s = true) : F (5 + 3 * s) = ι (k / 2) ∧ F (5 + 3 * s + 1) = ι (k % 2) := by
  unfold onK onB at h
  exact of_decide_eq_true h
theorem c_place {σ τ : Mem} {F q : Nat → Int32} {k n a b o p : Nat} {E : List En} {e : En} (h : LX σ τ F q k n a b E) (ho : TO o) (he : E[p]? = some e) : ∃ ρ, fX11_writeLabelAt 0 (ι p) o σ = some ρ ∧ TC ρ o (ln (o + 1)) (plW F b e) ∧ frT o σ ρ := by
  obtain ⟨⟨h1, h2, h3⟩, h4, h5, h6, h7, h8, h9, h10, h11, h12, h13, h14, h15, h16, h17⟩ := h
  obtain ⟨L1, L2⟩ := TO_ln ho
  have hp : p < E.length := (List.getElem?_eq_some_iff.mp he).1
  have g := ent_lt h1 (show (ordE F n a)[p]? = some e by rw [← h7]; exact he)
  obtain ⟨m, m1, m2⟩ : Tx σ o := by rcases ho with rfl | rfl | rfl <;> assumption
  have t0 : frT o σ (up σ o 1 (ι 0)) := fun j a b => up_k _ _ _ _ _ a
  have T0 : TC (up σ o 1 (ι 0)) o (ln (o + 1)) [] := ⟨rfl, L2, Nat.zero_le _, up_e _ _ _ _, fun i hi => absurd hi (Nat.not_lt_zero i)⟩
  have f : ∀ {ρ : Mem}, frT o σ ρ → ∀ j, 41 ≤ j → ρ j = σ j := fun {ρ} hσ j hj => hσ j (by unfold TO at ho; omega) (by unfold TO at ho; omega)
  have hx : e.1 / 2 < 60 := by omega
  have hy : e.1 % 2 < 2 := by omega
  have hlen := lab_len (F := F) (b := b) h1 h10 hx hy
  obtain ⟨ρ1, a1, a2, a3⟩ := c_lab (σ := up σ o 1 (ι 0)) h1 h3 (LR_c h3 h5 (fun j hj => f t0 _ (by omega)) (fun _ _ => rfl)) h10 hx hy T0 (show 0 + 12 ≤ ln (o + 1) by omega)
  have t1 := frT_trans t0 a3
  obtain ⟨r1, r2, r3, r4⟩ := c_rows h8 (OC_f h6 (fun j hj => f t0 j (by omega))) he hp
  obtain ⟨s1, s2, s3, s4⟩ := c_rows h8 (OC_f h6 (fun j hj => f t1 j (by omega))) he hp
  unfold fX11_writeLabelAt
  rw [l_0, c_short m1 m2 (Nat.zero_le m), Option.bind_some, Nat.zero_add, Nat.zero_add, Nat.zero_add, r1, Option.bind_some, r2, Option.bind_some]
  have a1 : fX1_write 53 (eL e) (eS e) o (up σ o 1 (ι 0)) = some ρ1 := a1
  rw [a1, Option.bind_some, s3, Option.bind_some]
  unfold plW slW
  rw [List.nil_append] at a2
  rcases g.2.2.2 with he2 | ⟨s, w, w1, w2, w3, he2⟩
  · have ep : eP e = (-1 : Int32) := by unfold eP; rw [he2]; rfl
    rw [if_pos ep, he2]
    exact ⟨ρ1, rfl, by rw [List.append_nil]; exact a2, t1⟩
  · have ep : eP e = ι s := by unfold eP; rw [he2]
    have ew : eW e = ι w := by unfold eW; rw [he2]
    have hs12 : s < 12 := by omega
    have hw2 : w < 2 := by
      have := (h9 s w1).2
      rcases this with z | z
      · rw [z, nn_ι (by omega)] at w3; omega
      · rw [z, nn_ι (by omega)] at w3; omega
    obtain ⟨v1, v2⟩ := onK_vals w2
    have hne : ¬ eP e = (-1 : Int32) := by
      rw [ep]; intro z
      have z : ι s = μ := z
      rw [ι_m1 (by omega)] at z; exact z
    rw [if_neg hne, he2]
    show ∃ ρ, _ ∧ TC ρ o (ln (o + 1)) (labW F b (e.1 / 2) (e.1 % 2) ++ ([42] ++ ([97 + cf (onB F (ι (e.1 / 2)) (ι (e.1 % 2))) 0 s] ++ (if w = 1 then [118] else [])))) ∧ _
    have hcf := cf_le (onB F (ι (e.1 / 2)) (ι (e.1 % 2))) s 0
    obtain ⟨ρ2, b1, b2, b3⟩ := c_w (c := 42) a2 (by omega)
    have b1 : fX8_add o (42 : Int32) ρ1 = some ρ2 := b1
    have t2 := frT_trans t1 b3
    have hV2 : VR ρ2 42 q k n a F := VR_c h1 h2 h4 (fun j hj => f t2 _ (by omega)) (fun _ _ => rfl)
    have hrank : fX10_rankOfSlip 42 (eP e) ρ2 = some (ι (cf (onB F (ι (e.1 / 2)) (ι (e.1 % 2))) 0 s)) := by
      unfold fX10_rankOfSlip
      rw [ep, c_at (o := 42 + 5) hV2.1.2.2.1 (by omega) hs12, Option.bind_some, c_at (o := 42 + 7) hV2.1.2.2.2.1 (by omega) hs12, Option.bind_some, hV2.2.2.2.2.2.2.1 s w1, hV2.2.2.2.2.2.2.2.1 s w1, v1, v2, c_slipsOnBefore h2 hV2 (fun z => by rw [ι_m1 (by omega)] at z; exact z) _ (by omega), Option.bind_some]
    obtain ⟨ρ3, c1, c2, c3⟩ := c_w (c := 97 + cf (onB F (ι (e.1 / 2)) (ι (e.1 % 2))) 0 s) b2 (by rw [len1]; omega)
    have t3 := frT_trans t2 c3
    obtain ⟨u1, u2, u3, u4⟩ := c_rows h8 (OC_f h6 (fun j hj => f t3 j (by omega))) he hp
    rw [b1, Option.bind_some, hrank, Option.bind_some, l_97, ι_add, c1, Option.bind_some, u4, Option.bind_some, ew]
    by_cases hw1 : w = 1
    · rw [if_pos hw1]
      obtain ⟨ρ4, d1, d2, d3⟩ := c_w (c := 118) c2 (by rw [len1, len1]; omega)
      have d1 : fX8_add o (118 : Int32) ρ3 = some ρ4 := d1
      refine ⟨ρ4, by rw [if_pos (by rw [hw1]; rfl), d1, Option.bind_some], ?_, frT_trans t3 d3⟩
      rw [List.append_assoc, List.append_assoc] at d2; exact d2
    · rw [if_neg hw1, List.append_nil]
      refine ⟨ρ3, by rw [if_neg (by rw [l_1, ι_eq (by omega) (by omega)]; exact hw1)], ?_, t3⟩
      rw [List.append_assoc] at c2; exact c2
theorem pl_len {F : Nat → Int32} {n b : Nat} {e : En} (hn : n ≤ 60) (hR : ∀ r, r < b → RgI n F r) (he : e.1 < 120) : (plW F b e).length ≤ 15 := by
  unfold plW
  have h1 := lab_len (F := F) (b := b) (x := e.1 / 2) (y := e.1 % 2) hn hR (by omega) (by omega)
  have h2 : (slW F e).length ≤ 3 := by
    unfold slW
    cases e.2 with
    | none => exact Nat.zero_le _
    | some p =>
      show ([42] ++ ([97 + cf (onB F (ι (e.1 / 2)) (ι (e.1 % 2))) 0 p.1] ++ (if p.2 = 1 then [118] else []))).length ≤ 3
      split <;> simp
  rw [List.length_append]; omega
theorem r_place {σ τ : Mem} {F q : Nat → Int32} {k n a b p : Nat} {E : List En} {e : En} (h : LX σ τ F q k n a b E) (he : E[p]? = some e) : ∃ υ, fX12_laysLabel (ι p) τ = some υ ∧ TR υ (plW F b e) ∧ frW τ υ := by
  obtain ⟨⟨h1, h2, h3⟩, h4, h5, h6, h7, h8, h9, h10, h11, h12, h13, h14, h15, h16, h17⟩ := h
  have hp : p < E.length := (List.getElem?_eq_some_iff.mp he).1
  have g := ent_lt h1 (show (ordE F n a)[p]? = some e by rw [← h7]; exact he)
  have hx : e.1 / 2 < 60 := by omega
  have hy : e.1 % 2 < 2 := by omega
  have hlen := lab_len (F := F) (b := b) h1 h10 hx hy
  obtain ⟨o1, o2, o3, o4⟩ := h14.2 p e he
  have t0 : frW τ (up τ 0 21 (ι 0)) := fun k j hk => by rw [up_g, if_neg (by omega)]
  have T0 : TR (up τ 0 21 (ι 0)) [] := ⟨Nat.zero_le _, up_e _ _ _ _, fun i hi => absurd hi (Nat.not_lt_zero i)⟩
  have e3 : up τ 0 21 (ι 0) 3 = F := by rw [up_k _ _ _ _ _ (by omega)]; exact h11
  have e8 : up τ 0 21 (ι 0) 8 = τ 8 := up_k _ _ _ _ _ (by omega)
  obtain ⟨υ1, a1, a2, a3⟩ := r_lab (τ := up τ 0 21 (ι 0)) (b := b) h1 (by rw [e3]; exact h12) h3 (by rw [e3]; exact h10) (frW_Ro t0 h13) hx hy T0 (show 0 + 12 ≤ 400 by omega)
  rw [e3, List.nil_append] at a2
  have a1 : fX12_writesLeafLabel (eL e) (eS e) (up τ 0 21 (ι 0)) = some υ1 := a1
  have t1 := frW_trans t0 a3
  unfold fX12_laysLabel
  simp (disch := omega) only [l_0, l_1, l_2, l_3, l_4, l_5, l_6, l_7, l_8, l_9, l_10, l_12, l_13, l_24, l_31, l_32, l_40, l_41, l_42, l_44, l_45, l_48, l_49, l_50, l_57, l_59, l_60, l_65, l_88, l_89, l_97, l_98, l_99, l_100, l_105, l_108, l_109, l_114, l_118, l_120, l_122, l_144, l_255, l_269, l_279, l_339, l_400, l_600, l_999, l_1000, l_2373, l_2712, ι_lt, ι_le, ι_eq, ι_add, ι_mul, ι_sub, ι_div, ι_n, ι_m1, m1_ι, m1_lt, m1_le, lt_m1, le_m1, m1_lt_m1, m1_le_m1, m1_add1, neg_ι1, ι_addm, ι_addn, Bool.false_eq_true, Nat.not_lt_zero, Nat.add_zero, Nat.zero_add, Nat.mul_zero, Nat.reduceMul, Nat.reduceAdd, Nat.reduceSub, Nat.reduceLT, Nat.reduceLeDiff, Nat.reduceEqDiff, Nat.reduceDiv, Nat.reduceBEq, Nat.reduceBNe, false_or, or_false, true_or, or_true, and_true, true_and, false_and, and_false, not_false_eq_true, not_true_eq_false, if_true, if_false, if_pos, if_neg, Option.bind_some, ite_false, ite_true, eq_self, reduceIte, lm_0, lm_1, lm_2, lm_3, lm_4, lm_5, lm_6, lm_7, lm_8, lm_9, lm_10, lm_11, lm_12, lm_13, lm_14, lm_15, lm_16, lm_17, e8, o1, o2, o3, a1]
  unfold plW slW
  rcases g.2.2.2 with he2 | ⟨s, w, w1, w2, w3, he2⟩
  · have ep : eP e = μ := by unfold eP; rw [he2]
    rw [if_pos ep, he2]
    exact ⟨υ1, rfl, by rw [List.append_nil]; exact a2, t1⟩
  · have ep : eP e = ι s := by unfold eP; rw [he2]
    have ew : eW e = ι w := by unfold eW; rw [he2]
    have hs12 : s < 12 := by omega
    have hw2 : w < 2 := by
      have := (h9 s w1).2
      rcases this with z | z
      · rw [z, nn_ι (by omega)] at w3; omega
      · rw [z, nn_ι (by omega)] at w3; omega
    have hne : ¬ eP e = μ := by
      rw [ep]; intro z
      rw [ι_m1 (by omega)] at z; exact z
    rw [if_neg hne, he2]
    show ∃ υ, _ ∧ TR υ (labW F b (e.1 / 2) (e.1 % 2) ++ ([42] ++ ([97 + cf (onB F (ι (e.1 / 2)) (ι (e.1 % 2))) 0 s] ++ (if w = 1 then [118] else [])))) ∧ _
    have hcf := cf_le (onB F (ι (e.1 / 2)) (ι (e.1 % 2))) s 0
    obtain ⟨υ2, b1, b2, b3⟩ := r_w (c := 42) a2 (by omega) (by omega)
    have t2 := frW_trans t1 b3
    have e32 : υ2 3 = F := by rw [← h11]; exact funext fun j => t2 3 j (by omega)
    have hs : fX12_slipsOn (eL e) (eS e) (eP e) υ2 = some (ι (cf (onB F (ι (e.1 / 2)) (ι (e.1 % 2))) 0 s)) := by
      rw [ep, r_slipsOn _ _ (by omega), e32]; rfl
    obtain ⟨υ3, c1, c2, c3⟩ := r_w (c := 97 + cf (onB F (ι (e.1 / 2)) (ι (e.1 % 2))) 0 s) b2 (by rw [len1]; omega) (by omega)
    have t3 := frW_trans t2 c3
    have u4 : υ3 8 (4 * p + 3) = ι w := by rw [t3 8 _ (by omega), o4, ew]
    rw [b1, Option.bind_some, hs, Option.bind_some, ι_add, c1, Option.bind_some, u4]
    by_cases hw1 : w = 1
    · rw [if_pos hw1]
      obtain ⟨υ4, d1, d2, d3⟩ := r_w (c := 118) c2 (by rw [len1, len1]; omega) (by omega)
      refine ⟨υ4, by rw [if_pos (by rw [hw1]), d1, Option.bind_some], ?_, frW_trans t3 d3⟩
      rw [List.append_assoc, List.append_assoc] at d2; exact d2
    · rw [if_neg hw1, List.append_nil]
      refine ⟨υ3, by rw [if_neg (by rw [ι_eq (by omega) (by omega)]; exact hw1)], ?_, t3⟩
      rw [List.append_assoc] at c2; exact c2
theorem TC_Tx {σ : Mem} {o L : Nat} {l : List Nat} (h : TC σ o L l) : Tx σ o := ⟨l.length, Nat.le_trans h.2.2.1 h.2.1, h.2.2.2.1⟩
theorem frW_LX {τ υ : Mem} (h : frW τ υ) : ∀ k j, k = 3 ∨ k = 8 ∨ k = 11 ∨ (k = 0 ∧ j = 17) → υ k j = τ k j := fun k j hk => h k j (by omega)
theorem place_sim {σ τ : Mem} {F q : Nat → Int32} {k n a b o p : Nat} {E : List En} (h : LX σ τ F q k n a b E) (ho : TO o) (hp : p < E.length) : ∃ w ρ υ, fX11_writeLabelAt 0 (ι p) o σ = some ρ ∧ fX12_laysLabel (ι p) τ = some υ ∧ TC ρ o (ln (o + 1)) w ∧ TR υ w ∧ w.length ≤ 15 ∧ frT o σ ρ ∧ frW τ υ ∧ LX ρ υ F q k n a b E := by
  obtain ⟨e, he⟩ := get_lt hp
  obtain ⟨ρ, a1, a2, a3⟩ := c_place h ho he
  obtain ⟨υ, b1, b2, b3⟩ := r_place h he
  have g := ent_lt h.1.1 (show (ordE F n a)[p]? = some e by rw [← h.2.2.2.2.1]; exact he)
  exact ⟨_, ρ, υ, a1, b1, a2, b2, pl_len h.1.1 h.2.2.2.2.2.2.2.1 g.1, a3, b3, LX_c h ho a3 (TC_Tx a2) (frW_LX b3)⟩
theorem r_tl {l : List Nat} (hl : l.length ≤ 400) : ∀ m n i (τ : Mem), i + m = l.length → m < n → TR τ l → (∀ j, j < i → τ 9 j = ι (gt l j)) → ∃ z υ, fX12_tells_l2 n (ι i) τ = some (z, υ) ∧ (∀ j, j < l.length → υ 9 j = ι (gt l j)) ∧ ∀ k j, k ≠ 9 → υ k j = τ k j := by
  intro m
  induction m with
  | zero =>
    intro n i τ h hn ht hj
    obtain ⟨n, rfl⟩ : ∃ k, n = k + 1 := ⟨n - 1, by omega⟩
    rw [fX12_tells_l2]
    rw [ht.2.1, if_pos (by rw [ι_le (by omega) (by omega)]; omega)]
    exact ⟨_, _, rfl, fun j hj' => hj j (by omega), fun _ _ _ => rfl⟩
  | succ m ih =>
    intro n i τ h hn ht hj
    obtain ⟨n, rfl⟩ : ∃ k, n = k + 1 := ⟨n - 1, by omega⟩
    rw [fX12_tells_l2]
    obtain ⟨e1, e2⟩ := ht.2.2 i (by omega)
    have e0 := ht.2.1
    obtain ⟨z, υ, b1, b2, b3⟩ := ih n (i + 1) (up τ 9 i (ι (gt l i))) (by omega) (by omega) ⟨ht.1, by rw [up_k _ _ _ _ _ (by omega)]; exact e0, fun j hj => by rw [up_k _ _ _ _ _ (by omega)]; exact ht.2.2 j hj⟩ (fun j hj' => by
      by_cases e : j = i
      · rw [e, up_e]
      · rw [up_j _ _ _ _ _ e]; exact hj j (by omega))
    refine ⟨z, υ, ?_, b2, fun k j hk => by rw [b3 k j hk, up_k _ _ _ _ _ hk]⟩
    simp (disch := omega) only [l_0, l_1, l_2, l_3, l_4, l_5, l_6, l_7, l_8, l_9, l_10, l_12, l_13, l_24, l_31, l_32, l_40, l_41, l_42, l_44, l_45, l_48, l_49, l_50, l_57, l_59, l_60, l_65, l_88, l_89, l_97, l_98, l_99, l_100, l_105, l_108, l_109, l_114, l_118, l_120, l_122, l_144, l_255, l_269, l_279, l_339, l_400, l_600, l_999, l_1000, l_2373, l_2712, ι_lt, ι_le, ι_eq, ι_add, ι_mul, ι_sub, ι_div, ι_n, ι_m1, m1_ι, m1_lt, m1_le, lt_m1, le_m1, m1_lt_m1, m1_le_m1, m1_add1, neg_ι1, ι_addm, ι_addn, Bool.false_eq_true, Nat.not_lt_zero, Nat.add_zero, Nat.zero_add, Nat.mul_zero, Nat.reduceMul, Nat.reduceAdd, Nat.reduceSub, Nat.reduceLT, Nat.reduceLeDiff, Nat.reduceEqDiff, Nat.reduceDiv, Nat.reduceBEq, Nat.reduceBNe, false_or, or_false, true_or, or_true, and_true, true_and, false_and, and_false, not_false_eq_true, not_true_eq_false, if_true, if_false, if_pos, if_neg, Option.bind_some, ite_false, ite_true, eq_self, reduceIte, lm_0, lm_1, lm_2, lm_3, lm_4, lm_5, lm_6, lm_7, lm_8, lm_9, lm_10, lm_11, lm_12, lm_13, lm_14, lm_15, lm_16, lm_17, e0, e1, nar_d e2]
    exact b1
theorem r_tells {τ : Mem} {l : List Nat} (h : TR τ l) : ∃ υ, fX12_tells τ = some (ι l.length, υ) ∧ υ 0 20 = ι l.length ∧ (∀ i, i < l.length → υ 9 i = ι (gt l i)) ∧ ∀ k j, ¬ (k = 9 ∨ (k = 0 ∧ j = 20)) → υ k j = τ k j := by
  obtain ⟨z, υ, a1, a2, a3⟩ := r_tl h.1 l.length FU 0 τ (by omega) (by have := h.1; unfold FU; omega) h (fun j hj => absurd hj (Nat.not_lt_zero j))
  have a1 : fX12_tells_l2 FU (0 : Int32) τ = some (z, υ) := a1
  have e : υ 0 21 = ι l.length := (a3 0 21 (by omega)).trans h.2.1
  refine ⟨up υ 0 20 (ι l.length), ?_, up_e _ _ _ _, fun i hi => ?_, fun k j hk => ?_⟩
  · unfold fX12_tells
    rw [a1, Option.bind_some]
    show some (up υ 0 20 (υ 0 21) 0 21, up υ 0 20 (υ 0 21)) = _
    rw [e, up_j _ _ _ _ _ (by omega), e]
  · rw [up_k _ _ _ _ _ (by omega)]; exact a2 i hi
  · rw [up_g, if_neg (by omega)]; exact a3 k j (by omega)
theorem fmt_Rel {σ τ ρ υ ω : Mem} {w : List Nat} {L : Nat} (hR : Rel σ τ) (hw : w.length ≤ 236) (h1 : frT 35 σ ρ) (h2 : frW τ υ) (hC : TC ρ 35 L w) (h4 : ω 0 20 = ι w.length) (h5 : ∀ i, i < w.length → ω 9 i = ι (gt w i)) (h6 : ∀ k j, ¬ (k = 9 ∨ (k = 0 ∧ j = 20)) → ω k j = υ k j) : Rel ρ ω := by
  have hR' := hR
  obtain ⟨k, n, hr, hC'⟩ := hR'
  have f : ∀ j, j ≠ 35 → j ≠ 36 → ρ j = σ j := h1
  have g : ∀ k j, ¬ (k = 9 ∨ k = 10 ∨ (k = 0 ∧ (j = 20 ∨ j = 21))) → ω k j = τ k j := fun k j hk => (h6 k j (by omega)).trans (h2 k j (by omega))
  refine Rel_parts hR (fun j hj => f j (by omega) (by omega)) (fun k j hk => g k j (by omega)) ?_ ?_ ?_ ?_
  · exact IR_c hr.2.2.2.2.1 (f 33 (by omega) (by omega)) (f 34 (by omega) (by omega)) (g 0 12 (by omega)) (funext fun j => g 7 j (by omega))
  · exact ⟨w.length, hw, hC.2.2.2.1, h4, fun i hi => by rw [h5 i hi]; exact hC.2.2.2.2 i hi⟩
  · exact Tx_c hr.2.2.2.2.2.2.1 (f 37 (by omega) (by omega))
  · exact Tx_c hr.2.2.2.2.2.2.2.1 (f 39 (by omega) (by omega))
theorem LX_of {σ τ : Mem} {k n a b d t : Nat} {E : List En} (h : RO σ τ k n a b d t) (hE : E = ordE (τ 3) n a) (oc : OC σ E) (ot : OT τ E) : LX σ τ (τ 3) (τ 1) k n a b E := by
  obtain ⟨hr, hF, hV, hL, hC, hW⟩ := h
  obtain ⟨f1, f2, f3, f4, f5, f6, f7⟩ := hF
  have hn := hr.1.2.2.2.2
  obtain ⟨mf, m1, m2, m3⟩ := hr.2.2.2.2.2.1
  exact ⟨⟨hn, f2, f5⟩, hV, hL, oc, hE, by rw [hE]; exact ordE_len hn f2 f3, f3, f6, rfl, f4, hr.2.2.2.2.2.2.2.2, ot, ⟨mf, by omega, m2⟩, hr.2.2.2.2.2.2.1, hr.2.2.2.2.2.2.2.1⟩
theorem sim26 : Sim26 Rel := by
  intro σ τ x1 hR
  replace hR := Rel_0 hR 0
  unfold fX12_formatLabel fX11_formatLabel
  have h00 : up τ 0 0 0 0 0 = 0 := up_e _ _ _ _
  generalize up τ 0 0 (0 : Int32) = τ at *
  obtain ⟨k, n, a, b, d, t, hO⟩ := RO_of hR
  obtain ⟨ρ, υ, e1, e2, hO2, oc, ot, f1, f2⟩ := ord_RO hO
  obtain ⟨hr, hF, hV, hL', hC, hW⟩ := hO
  have hn := hr.1.2.2.2.2
  have hL := ordE_len (F := τ 3) hn hF.2.1 hF.2.2.1
  have hR2 := RO_rel hO2
  have u0 : υ 0 0 = 0 := (f2 0 0 (by omega)).trans h00
  have e10 : ¬ (ι 1 = (0 : Int32)) := by decide
  have hX := LX_of hO2 (by rw [fr8_3 f2]) oc ot
  rcases leaf_cases x1 (ordE (τ 3) n a).length with ⟨i, hi, rfl⟩ | hx
  · obtain ⟨w, ρ1, υ1, a1, a2, a3, a4, a5, a6, a7, a8⟩ := place_sim (o := 35) hX (Or.inl rfl) hi
    obtain ⟨ω, b1, b2, b3, b4⟩ := r_tells a4
    unfold fX8_size
    simp only [c_reqPlace e1 hL oc hi, r_isPlace e2 hL ot hi, if_neg e10, Option.bind_some, Nat.zero_add, a1, a2, b1]
    refine ⟨_, _, 0, rfl, rfl, Or.inl ⟨_, rfl, rfl⟩, fun v hv => (by cases hv; exact a3.2.2.2.1.symm), ?_, fmt_Rel hR2 (by omega) a6 a7 a3 b2 b3 b4⟩
    show ω 0 0 = 0
    rw [b4 0 0 (by omega), a7 0 0 (by omega)]; exact u0
  · rw [c_reqPlace_no e1 hL oc hx, r_isPlace_no e2 hL ot hx]
    simp only [Option.bind_some, l_0, if_true, ref_fails]
    exact ⟨_, _, 1, rfl, rfl, Or.inr ⟨rfl, rfl⟩, fun v hv => (by cases hv), z_bad, Rel_0 hR2 _⟩
theorem sim27 : Sim27 Rel := by
  intro σ τ x1 x2 hR
  replace hR := Rel_0 hR 0
  unfold fX12_formatLeafLabel fX11_formatLeafLabel
  have h00 : up τ 0 0 0 0 0 = 0 := up_e _ _ _ _
  generalize up τ 0 0 (0 : Int32) = τ at *
  obtain ⟨k, n, a, b, d, t, hO⟩ := RO_of hR
  obtain ⟨hr, hF, hV, hL, hC, hW⟩ := hO
  have hn := hr.1.2.2.2.2
  have e10 : ¬ (ι 1 = (0 : Int32)) := by decide
  obtain ⟨g1, g2, g3, g4, g5, g6, g7⟩ := hF
  rcases leaf_cases x1 n with ⟨i, hi, rfl⟩ | hx
  · rcases leaf_cases x2 2 with ⟨s, hs, rfl⟩ | hx
    · obtain ⟨mf, m1, m2, m3⟩ := hr.2.2.2.2.2.1
      have t0 : frT 35 σ (up σ 35 1 (ι 0)) := fun j a b => up_k _ _ _ _ _ a
      have T0 : TC (up σ 35 1 (ι 0)) 35 236 [] := ⟨ln36, by omega, Nat.zero_le _, up_e _ _ _ _, fun i hi => absurd hi (Nat.not_lt_zero i)⟩
      have q0 : frW τ (up τ 0 21 (ι 0)) := fun k j hk => by rw [up_g, if_neg (by omega)]
      have Q0 : TR (up τ 0 21 (ι 0)) [] := ⟨Nat.zero_le _, up_e _ _ _ _, fun i hi => absurd hi (Nat.not_lt_zero i)⟩
      have e3 : up τ 0 21 (ι 0) 3 = τ 3 := by rw [up_k _ _ _ _ _ (by omega)]
      obtain ⟨ρ1, a1, a2, a3⟩ := c_lab (σ := up σ 35 1 (ι 0)) hn g5 (LR_c g5 hL (fun j hj => up_k _ _ _ _ _ (by omega)) (fun _ _ => rfl)) g6 (show i < 60 by omega) hs T0 (show 0 + 12 ≤ 236 by omega)
      obtain ⟨υ1, b1, b2, b3⟩ := r_lab (τ := up τ 0 21 (ι 0)) (b := b) hn (by rw [e3]; exact g4) g5 (by rw [e3]; exact g6) (frW_Ro q0 hr.2.2.2.2.2.2.2.2) (show i < 60 by omega) hs Q0 (show 0 + 12 ≤ 400 by omega)
      rw [e3] at b2
      obtain ⟨ω, c1, c2, c3, c4⟩ := r_tells b2
      have hlen := lab_len (F := τ 3) (b := b) hn g6 (show i < 60 by omega) hs
      have s0 : fX8_shortenTo 35 (0 : Int32) σ = some (up σ 35 1 (ι 0)) := c_short (by omega) m2 (Nat.zero_le mf)
      have b1 : fX12_writesLeafLabel (ι i) (ι s) (up τ 0 21 (0 : Int32)) = some υ1 := b1
      unfold fX8_size
      simp only [c_reqLeaf hn hV hi, r_isLeaf hr.1 hr.2.1 (show i < 2147483648 by omega), if_pos hi, c_reqSide hs, r_isSide hs, if_neg e10, Option.bind_some, Nat.zero_add, s0, a1, b1, c1]
      refine ⟨_, _, 0, rfl, rfl, Or.inl ⟨_, rfl, rfl⟩, fun v hv => (by cases hv; exact a2.2.2.2.1.symm), ?_, fmt_Rel hR (by rw [List.nil_append]; omega) (frT_trans t0 a3) (frW_trans q0 b3) a2 c2 c3 c4⟩
      show ω 0 0 = 0
      rw [c4 0 0 (by omega), b3 0 0 (by omega), q0 0 0 (by omega)]; exact h00
    · simp only [c_reqLeaf hn hV hi, r_isLeaf hr.1 hr.2.1 (show i < 2147483648 by omega), if_pos hi, c_reqSide_no hx, r_isSide_no hx, if_neg e10, Option.bind_some, l_0, if_true, ref_fails]
      exact ⟨_, _, 2, rfl, rfl, Or.inr (Or.inr ⟨rfl, rfl⟩), fun v hv => (by cases hv), z_bad, Rel_0 hR _⟩
  · rw [c_reqLeaf_no hn hV hx, r_isLeaf_no hr.1 hr.2.1 hx]
    simp only [Option.bind_some, l_0, if_true, ref_fails]
    exact ⟨_, _, 1, rfl, rfl, Or.inr (Or.inl ⟨rfl, rfl⟩), fun v hv => (by cases hv), z_bad, Rel_0 hR _⟩
