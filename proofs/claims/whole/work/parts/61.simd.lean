/-! PURE PART: scans of openings and slips, turns -/
theorem sim10 : Sim10 Rel := by
  intro σ τ x1 hR
  replace hR := Rel_0 hR 0
  unfold fX12_scanOpening fX12_scanOpening_j41 fX11_scanOpening
  have h00 : up τ 0 0 0 0 0 = 0 := up_e _ _ _ _
  generalize up τ 0 0 (0 : Int32) = τ at *
  obtain ⟨k, n, a, b, d, t, hO⟩ := RO_of hR
  have hO' := hO
  obtain ⟨hr, hF, hV, hL, hC, hW⟩ := hO
  have hn := hr.1.2.2.2.2
  have hd := hF.2.2.2.2.2.2.2.1
  have hcf := cf_le (pB (τ 3)) n 0
  have e10 : ¬ (ι 1 = (0 : Int32)) := by decide
  have ez : ¬ ((2 : Int32) < 0 ∨ lm 3 ≤ (2 : Int32).toNatClampNeg) := by decide
  have f2 : τ 3 (2 : Int32).toNatClampNeg = ι d := hF.2.2.2.2.2.2.1
  rcases leaf_cases x1 (cf (pB (τ 3)) 0 n + 1) with ⟨i, hi, rfl⟩ | hx
  · have hi' : i < 2147483648 := by omega
    have o1 : (oi (lf (τ 3) n i) = -1) = (lf (τ 3) n i = none) := oi_none fun j hj => by have := lf_some hi' hn hj; omega
    have o2 : (oi (pl (τ 3) n (ι i)) = -1) = (pl (τ 3) n (ι i) = none) := oi_none fun j hj => by have := pl_some hi' hn hj; omega
    simp only [c_reqOpen hn hV hi, r_isOpening hr.1 hr.2.1 hi', if_pos hi, Option.bind_some, if_neg e10, Nat.zero_add, c_left hn hV hi', c_right hn hV hi', r_left hr.1 hr.2.1 hi', r_right hr.1 hr.2.1 hi', if_neg ez, f2, o1, o2]
    have hS : ScV n a 1 (oi (lf (τ 3) n i)) (oi (pl (τ 3) n (ι i))) := Or.inr (Or.inl ⟨rfl, _, _, rfl, rfl, fun j hj => (lf_some hi' hn hj).1, fun j hj => (pl_some hi' hn hj).1, fun x y h1 h2 => lf_lt hi' hn h1 h2⟩)
    by_cases h60 : d = 60
    · have e60 : ι d = (60 : Int32) := by rw [h60]; rfl
      simp only [add_full hC h60, if_pos e60, Option.bind_some, ref_fails]
      by_cases h1 : lf (τ 3) n i = none
      · by_cases h2 : pl (τ 3) n (ι i) = none
        · simp only [if_pos h1, if_pos h2]
          exact ⟨_, _, 2, rfl, rfl, Or.inr (Or.inr ⟨rfl, rfl⟩), fun v hv => (by cases hv), z_bad, Rel_0 hR _⟩
        · simp only [if_pos h1, if_neg h2]
          exact ⟨_, _, 2, rfl, rfl, Or.inr (Or.inr ⟨rfl, rfl⟩), fun v hv => (by cases hv), z_bad, Rel_0 hR _⟩
      · simp only [if_neg h1]
        exact ⟨_, _, 2, rfl, rfl, Or.inr (Or.inr ⟨rfl, rfl⟩), fun v hv => (by cases hv), z_bad, Rel_0 hR _⟩
    · have e60 : ¬ ι d = (60 : Int32) := by rw [l_60, ι_eq (by omega) (by omega)]; exact h60
      obtain ⟨ρ, υ, e1, e2, e3, e4⟩ := add_sim hO' (by omega) hS
      simp only [e1, e2, if_neg e60, Option.bind_some, ref_fails]
      by_cases h1 : lf (τ 3) n i = none
      · by_cases h2 : pl (τ 3) n (ι i) = none
        · simp only [if_pos h1, if_pos h2]
          exact ⟨_, _, 2, rfl, rfl, Or.inr (Or.inr ⟨rfl, rfl⟩), fun v hv => (by cases hv), z_bad, Rel_0 hR _⟩
        · simp only [if_pos h1, if_neg h2]
          exact ⟨_, _, 0, rfl, rfl, Or.inl ⟨_, rfl, rfl⟩, fun v hv => (by cases hv; rfl), e3.trans h00, e4⟩
      · simp only [if_neg h1]
        exact ⟨_, _, 0, rfl, rfl, Or.inl ⟨_, rfl, rfl⟩, fun v hv => (by cases hv; rfl), e3.trans h00, e4⟩
  · rw [c_reqOpen_no hn hV hx, r_isOpening_no hr.1 hr.2.1 hx]
    simp only [Option.bind_some, l_0, if_true, ref_fails]
    exact ⟨_, _, 1, rfl, rfl, Or.inr (Or.inl ⟨rfl, rfl⟩), fun v hv => (by cases hv), z_bad, Rel_0 hR _⟩
theorem sim11 : Sim11 Rel := by
  intro σ τ x1 x2 hR
  replace hR := Rel_0 hR 0
  unfold fX12_scanSlip fX11_scanSlip
  have h00 : up τ 0 0 0 0 0 = 0 := up_e _ _ _ _
  generalize up τ 0 0 (0 : Int32) = τ at *
  obtain ⟨k, n, a, b, d, t, hO⟩ := RO_of hR
  have hO' := hO
  obtain ⟨hr, hF, hV, hL, hC, hW⟩ := hO
  have hn := hr.1.2.2.2.2
  have ha := hF.2.1
  have hd := hF.2.2.2.2.2.2.2.1
  have e10 : ¬ (ι 1 = (0 : Int32)) := by decide
  have ez : ¬ ((2 : Int32) < 0 ∨ lm 3 ≤ (2 : Int32).toNatClampNeg) := by decide
  have f2 : τ 3 (2 : Int32).toNatClampNeg = ι d := hF.2.2.2.2.2.2.1
  rcases leaf_cases x1 a with ⟨i, hi, rfl⟩ | hx
  · unfold fX10_sidesOfSlip
    obtain ⟨w, hw, hw'⟩ : ∃ w, (w = 1 ∨ w = 2) ∧ τ 3 (5 + 3 * i + 2) = ι w := by
      rcases (hF.2.2.1 i hi).2 with z | z
      · exact ⟨1, Or.inl rfl, z⟩
      · exact ⟨2, Or.inr rfl, z⟩
    have es : fX12_ofSlip (ι i) (2 : Int32) τ = some (ι w) := by rw [l_2, r_ofSlip (by omega) (by omega), hw']
    simp only [c_reqSlip ha hV hi, r_isSlip hF.1 ha (show i < 2147483648 by omega), if_pos hi, Option.bind_some, if_neg e10, Nat.zero_add, c_at hV.1.2.2.2.2 (show 12 ≤ 600 by omega) (show i < 12 by omega), hV.2.2.2.2.2.2.2.2 i hi, hw', es, c_reqAtt ha hV hi, r_isAttached (show i < 12 by omega), if_neg ez, f2]
    rcases leaf_cases x2 w with ⟨s, hs, rfl⟩ | hx
    · rw [r_in0 (by omega) (by omega), if_pos hs]
      have e1 : ¬ ι s < 0 := by simp (disch := omega) only [l_0, l_1, l_2, l_3, l_4, l_5, l_6, l_7, l_8, l_9, l_10, l_12, l_13, l_24, l_31, l_32, l_40, l_41, l_42, l_44, l_45, l_48, l_49, l_50, l_57, l_59, l_60, l_65, l_88, l_89, l_97, l_98, l_99, l_100, l_105, l_108, l_109, l_114, l_118, l_120, l_122, l_144, l_255, l_269, l_279, l_339, l_400, l_600, l_999, l_1000, l_2373, l_2712, ι_lt, ι_le, ι_eq, ι_add, ι_mul, ι_sub, ι_div, ι_n, ι_m1, m1_ι, m1_lt, m1_le, lt_m1, le_m1, m1_lt_m1, m1_le_m1, m1_add1, neg_ι1, ι_addm, ι_addn, Bool.false_eq_true, Nat.not_lt_zero, Nat.add_zero, Nat.zero_add, Nat.mul_zero, Nat.reduceMul, Nat.reduceAdd, Nat.reduceSub, Nat.reduceLT, Nat.reduceLeDiff, Nat.reduceEqDiff, Nat.reduceDiv, Nat.reduceBEq, Nat.reduceBNe, false_or, or_false, true_or, or_true, and_true, true_and, false_and, and_false, not_false_eq_true, not_true_eq_false, if_true, if_false, if_pos, if_neg, Option.bind_some, ite_false, ite_true, eq_self, reduceIte]
      have e2 : ι s < ι w := by rw [ι_lt (by omega) (by omega)]; exact hs
      rw [if_neg e1, if_pos e2, Option.bind_some, if_neg e10]
      by_cases hp : atB (τ 3) i = true
      · simp only [hp, if_true, if_neg e10]
        by_cases h60 : d = 60
        · rw [add_full hC h60, if_pos (by rw [h60]; rfl), Option.bind_some, ref_fails]
          exact ⟨_, _, 2, rfl, rfl, Or.inr (Or.inr ⟨rfl, rfl⟩), fun v hv => (by cases hv), z_bad, Rel_0 hR _⟩
        · rw [if_neg (by rw [l_60, ι_eq (by omega) (by omega)]; exact h60)]
          obtain ⟨ρ, υ, e1, e2, e3, e4⟩ := add_sim (x1 := (2 : Int32)) (x2 := ι i) (x3 := ι s) hO' (by omega) (Or.inr (Or.inr ⟨rfl, i, s, hi, by omega, rfl, rfl⟩))
          rw [e1, e2]
          exact ⟨_, _, 0, rfl, rfl, Or.inl ⟨_, rfl, rfl⟩, fun v hv => (by cases hv; rfl), e3.trans h00, e4⟩
      · simp only [hp, l_0, if_false, if_true, ref_fails, Option.bind_some, Bool.false_eq_true]
        exact ⟨_, _, 2, rfl, rfl, Or.inr (Or.inr ⟨rfl, rfl⟩), fun v hv => (by cases hv), z_bad, Rel_0 hR _⟩
    · have ein : fX12_isIn x2.toInt64 (0 : Int64) ((ι w - (1 : Int32)).toInt64) τ = some (ι 0) := by
        rw [l_1, ι_sub (by omega)]
        exact r_inC_no (by omega) (fun j hj => hx j (by omega))
      have ec : ∀ {α : Type} (u v : α), (if x2 < 0 then u else (if x2 < ι w then v else u)) = u := fun u v => by
        rcases ι_cases x2 with h | ⟨j, h1, h2⟩
        · simp only [l_0, h, if_true]
        · subst h2
          have : ¬ j < w := fun z => hx j z rfl
          simp (disch := omega) only [l_0, l_1, l_2, l_3, l_4, l_5, l_6, l_7, l_8, l_9, l_10, l_12, l_13, l_24, l_31, l_32, l_40, l_41, l_42, l_44, l_45, l_48, l_49, l_50, l_57, l_59, l_60, l_65, l_88, l_89, l_97, l_98, l_99, l_100, l_105, l_108, l_109, l_114, l_118, l_120, l_122, l_144, l_255, l_269, l_279, l_339, l_400, l_600, l_999, l_1000, l_2373, l_2712, ι_lt, ι_le, ι_eq, ι_add, ι_mul, ι_sub, ι_div, ι_n, ι_m1, m1_ι, m1_lt, m1_le, lt_m1, le_m1, m1_lt_m1, m1_le_m1, m1_add1, neg_ι1, ι_addm, ι_addn, Bool.false_eq_true, Nat.not_lt_zero, Nat.add_zero, Nat.zero_add, Nat.mul_zero, Nat.reduceMul, Nat.reduceAdd, Nat.reduceSub, Nat.reduceLT, Nat.reduceLeDiff, Nat.reduceEqDiff, Nat.reduceDiv, Nat.reduceBEq, Nat.reduceBNe, false_or, or_false, true_or, or_true, and_true, true_and, false_and, and_false, not_false_eq_true, not_true_eq_false, if_true, if_false, if_pos, if_neg, Option.bind_some, ite_false, ite_true, eq_self, reduceIte]
      rw [ein, ec]
      simp only [Option.bind_some, l_0, if_true, ref_fails]
      exact ⟨_, _, 1, rfl, rfl, Or.inr (Or.inl ⟨rfl, rfl⟩), fun v hv => (by cases hv), z_bad, Rel_0 hR _⟩
  · rw [c_reqSlip_no ha hV hx, r_isSlip_no hF.1 ha hx]
    simp only [Option.bind_some, l_0, if_true, ref_fails]
    exact ⟨_, _, 1, rfl, rfl, Or.inr (Or.inl ⟨rfl, rfl⟩), fun v hv => (by cases hv), z_bad, Rel_0 hR _⟩
theorem sim17 : Sim17 Rel := by
  intro σ τ hR
  replace hR := Rel_0 hR 0
  unfold fX12_goBack fX11_goBack
  have h00 : up τ 0 0 0 0 0 = 0 := up_e _ _ _ _
  generalize up τ 0 0 (0 : Int32) = τ at *
  obtain ⟨k, n, a, b, d, t, hO⟩ := RO_of hR
  have hO' := hO
  obtain ⟨hr, hF, hV, hL, hC, hW⟩ := hO
  have hn := hr.1.2.2.2.2
  have ht := hF.2.2.2.2.2.2.2.2.2.2.1
  have f4 := hF.2.2.2.2.2.2.2.2.2.1
  unfold fX9_trailSize
  by_cases h0 : t = 0
  · subst h0
    simp (disch := omega) only [l_0, l_1, l_2, l_3, l_4, l_5, l_6, l_7, l_8, l_9, l_10, l_12, l_13, l_24, l_31, l_32, l_40, l_41, l_42, l_44, l_45, l_48, l_49, l_50, l_57, l_59, l_60, l_65, l_88, l_89, l_97, l_98, l_99, l_100, l_105, l_108, l_109, l_114, l_118, l_120, l_122, l_144, l_255, l_269, l_279, l_339, l_400, l_600, l_999, l_1000, l_2373, l_2712, ι_lt, ι_le, ι_eq, ι_add, ι_mul, ι_sub, ι_div, ι_n, ι_m1, m1_ι, m1_lt, m1_le, lt_m1, le_m1, m1_lt_m1, m1_le_m1, m1_add1, neg_ι1, ι_addm, ι_addn, Bool.false_eq_true, Nat.not_lt_zero, Nat.add_zero, Nat.zero_add, Nat.mul_zero, Nat.reduceMul, Nat.reduceAdd, Nat.reduceSub, Nat.reduceLT, Nat.reduceLeDiff, Nat.reduceEqDiff, Nat.reduceDiv, Nat.reduceBEq, Nat.reduceBNe, false_or, or_false, true_or, or_true, and_true, true_and, false_and, and_false, not_false_eq_true, not_true_eq_false, if_true, if_false, if_pos, if_neg, Option.bind_some, ite_false, ite_true, eq_self, reduceIte, lm_0, lm_1, lm_2, lm_3, lm_4, lm_5, lm_6, lm_7, lm_8, lm_9, lm_10, lm_11, lm_12, lm_13, lm_14, lm_15, lm_16, lm_17, hW.2.1, f4, ref_fails]
    exact ⟨_, _, 1, rfl, rfl, Or.inr ⟨rfl, rfl⟩, fun v hv => (by cases hv), z_bad, Rel_0 hR _⟩
  · obtain ⟨ρ, υ, e1, e2, hO2, u1, u2⟩ := keep_RO hO'
    obtain ⟨gr, gF, gV, gL, gC, gW⟩ := hO2
    have w4 := gF.2.2.2.2.2.2.2.2.2.1
    have v1 := gW.2.1
    have ea : fX3_at (69 + 1) (ι (t - 1)) (up ρ 69 1 (ι (t - 1))) = some (υ 3 (269 + (t - 1))) := by
      rw [c_at gW.1 (by omega) (by omega), up_k _ _ _ _ _ (by omega), gW.2.2.2 (t - 1) (by omega)]
    unfold fX9_stepBack fX9_current
    simp (disch := omega) only [l_0, l_1, l_2, l_3, l_4, l_5, l_6, l_7, l_8, l_9, l_10, l_12, l_13, l_24, l_31, l_32, l_40, l_41, l_42, l_44, l_45, l_48, l_49, l_50, l_57, l_59, l_60, l_65, l_88, l_89, l_97, l_98, l_99, l_100, l_105, l_108, l_109, l_114, l_118, l_120, l_122, l_144, l_255, l_269, l_279, l_339, l_400, l_600, l_999, l_1000, l_2373, l_2712, ι_lt, ι_le, ι_eq, ι_add, ι_mul, ι_sub, ι_div, ι_n, ι_m1, m1_ι, m1_lt, m1_le, lt_m1, le_m1, m1_lt_m1, m1_le_m1, m1_add1, neg_ι1, ι_addm, ι_addn, Bool.false_eq_true, Nat.not_lt_zero, Nat.add_zero, Nat.zero_add, Nat.mul_zero, Nat.reduceMul, Nat.reduceAdd, Nat.reduceSub, Nat.reduceLT, Nat.reduceLeDiff, Nat.reduceEqDiff, Nat.reduceDiv, Nat.reduceBEq, Nat.reduceBNe, false_or, or_false, true_or, or_true, and_true, true_and, false_and, and_false, not_false_eq_true, not_true_eq_false, if_true, if_false, if_pos, if_neg, Option.bind_some, ite_false, ite_true, eq_self, reduceIte, lm_0, lm_1, lm_2, lm_3, lm_4, lm_5, lm_6, lm_7, lm_8, lm_9, lm_10, lm_11, lm_12, lm_13, lm_14, lm_15, lm_16, lm_17, up_e, up_j, up_k, Nat.reduceAdd, Nat.add_zero, hW.2.1, f4, e1, e2, v1, w4]
    have ea' : fX3_at 70 (ι (t - 1)) (up ρ 69 1 (ι (t - 1))) = some (υ 3 (269 + (t - 1))) := ea
    rw [ea']
    simp (disch := omega) only [l_0, l_1, l_2, l_3, l_4, l_5, l_6, l_7, l_8, l_9, l_10, l_12, l_13, l_24, l_31, l_32, l_40, l_41, l_42, l_44, l_45, l_48, l_49, l_50, l_57, l_59, l_60, l_65, l_88, l_89, l_97, l_98, l_99, l_100, l_105, l_108, l_109, l_114, l_118, l_120, l_122, l_144, l_255, l_269, l_279, l_339, l_400, l_600, l_999, l_1000, l_2373, l_2712, ι_lt, ι_le, ι_eq, ι_add, ι_mul, ι_sub, ι_div, ι_n, ι_m1, m1_ι, m1_lt, m1_le, lt_m1, le_m1, m1_lt_m1, m1_le_m1, m1_add1, neg_ι1, ι_addm, ι_addn, Bool.false_eq_true, Nat.not_lt_zero, Nat.add_zero, Nat.zero_add, Nat.mul_zero, Nat.reduceMul, Nat.reduceAdd, Nat.reduceSub, Nat.reduceLT, Nat.reduceLeDiff, Nat.reduceEqDiff, Nat.reduceDiv, Nat.reduceBEq, Nat.reduceBNe, false_or, or_false, true_or, or_true, and_true, true_and, false_and, and_false, not_false_eq_true, not_true_eq_false, if_true, if_false, if_pos, if_neg, Option.bind_some, ite_false, ite_true, eq_self, reduceIte, up_e, up_j, up_k, Nat.reduceAdd, Nat.add_zero]
    refine ⟨_, _, ι 0, rfl, rfl, Or.inl ⟨_, rfl, rfl⟩, fun v hv => (by cases hv; rfl), (by simp (disch := omega) only [up_e, up_j, up_k, Nat.reduceAdd, Nat.add_zero]; rw [u2 0 0 (by omega)]; exact h00), ?_⟩
    refine Rel_close (k := k) (n := n) (a := a) (b := b) (d := d) (t := t - 1) ?_ ?_ ?_ ?_ ?_ ?_
    · exact Rest_up gr (fun j hj => by simp (disch := omega) only [up_e, up_j, up_k, Nat.reduceAdd, Nat.add_zero]) (fun k j hk => by simp (disch := omega) only [up_e, up_j, up_k, Nat.reduceAdd, Nat.add_zero])
    · obtain ⟨f1, f2, f3, f4, f5, f6, f7, f8, f9, f10, f11, f12⟩ := gF
      have eF : ∀ j, j ≠ 3 → j ≠ 4 → (up (up υ 3 4 (ι (t - 1))) 3 3 (υ 3 (269 + (t - 1)))) 3 j = υ 3 j := fun j h1 h2 => by simp (disch := omega) only [up_e, up_j, up_k, Nat.reduceAdd, Nat.add_zero]
      refine ⟨?_, f2, fun s hs => SlI_e (by omega) (f3 s hs) (fun j h1 h2 => eF j (by omega) (by omega)), ?_, f5, fun s hs => RgI_e (by omega) (f6 s hs) (fun j h1 h2 => eF j (by omega) (by omega)), ?_, f8, fun s hs => ScI_e (by omega) (f9 s hs) (fun j h1 h2 => eF j (by omega) (by omega)), ?_, by omega, fun j hj => ?_⟩
      · exact (eF 0 (by omega) (by omega)).trans f1
      · exact (eF 1 (by omega) (by omega)).trans f4
      · exact (eF 2 (by omega) (by omega)).trans f7
      · simp (disch := omega) only [up_e, up_j, up_k, Nat.reduceAdd, Nat.add_zero]
      · have e := eF (279 + j) (by omega) (by omega)
        have z := f12 j hj
        rw [← e] at z
        exact z
    · have eF : ∀ j, j ≠ 3 → j ≠ 4 → (up (up υ 3 4 (ι (t - 1))) 3 3 (υ 3 (269 + (t - 1)))) 3 j = υ 3 j := fun j h1 h2 => by simp (disch := omega) only [up_e, up_j, up_k, Nat.reduceAdd, Nat.add_zero]
      have : (up (up υ 3 4 (ι (t - 1))) 3 3 (υ 3 (269 + (t - 1)))) 1 = υ 1 := by rw [up3_1, up3_1]
      show VR _ 42 ((up (up υ 3 4 (ι (t - 1))) 3 3 (υ 3 (269 + (t - 1)))) 1) k n a _
      rw [this]
      exact VR_e hn gF.2.1 gV (fun j hj => by simp (disch := omega) only [up_e, up_j, up_k, Nat.reduceAdd, Nat.add_zero]) (fun j h1 h2 => eF j (by omega) (by omega)) (fun j h1 h2 => eF j (by omega) (by omega))
    · exact LR_e gF.2.2.2.2.1 gL (fun j hj => by simp (disch := omega) only [up_e, up_j, up_k, Nat.reduceAdd, Nat.add_zero]) (fun j h1 h2 => by simp (disch := omega) only [up_e, up_j, up_k, Nat.reduceAdd, Nat.add_zero])
    · exact CR_e gF.2.2.2.2.2.2.2.1 gC (fun j hj => by simp (disch := omega) only [up_e, up_j, up_k, Nat.reduceAdd, Nat.add_zero]) (fun j h1 h2 => by simp (disch := omega) only [up_e, up_j, up_k, Nat.reduceAdd, Nat.add_zero])
    · refine ⟨gW.1, ?_, ?_, fun j hj => ?_⟩
      · simp (disch := omega) only [up_e, up_j, up_k, Nat.reduceAdd, Nat.add_zero]
      · simp (disch := omega) only [up_e, up_j, up_k, Nat.reduceAdd, Nat.add_zero]
      · simp (disch := omega) only [up_e, up_j, up_k, Nat.reduceAdd, Nat.add_zero]; exact gW.2.2.2 j (by omega)
