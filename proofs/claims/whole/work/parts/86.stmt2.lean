/-! PURE PART: statements of the setup text, slips and labels -/
def sd (B : Nat → Nat) (m s : Nat) : Option Nat := if isW B m 3 s then some 0 else if isW B m 4 s then some 1 else none
theorem sd_lt {B : Nat → Nat} {m s i : Nat} (h : sd B m s = some i) : i < 2 := by
  unfold sd at h
  by_cases c : isW B m 3 s = true
  · rw [if_pos c] at h; cases h; omega
  · rw [if_neg c] at h
    by_cases c : isW B m 4 s = true
    · rw [if_pos c] at h; cases h; omega
    · rw [if_neg c] at h; cases h
theorem c_side {B : Nat → Nat} {m s : Nat} {σ : Mem} (hB : BC B m σ) (hT : CT B m σ s) : fX6_sideNamed 1 σ = some (oi (sd B m s)) := by
  unfold fX6_sideNamed sd
  rw [c_isWord hB hT (wl_ok 3 (by omega)).2, Option.bind_some, c_isWord hB hT (wl_ok 4 (by omega)).2, Option.bind_some]
  by_cases c : isW B m 3 s = true
  · rw [if_pos c, if_pos c, if_neg (by decide)]; rfl
  · rw [if_neg c, if_neg c, if_pos (show ι 0 = (0 : Int32) from rfl)]
    by_cases c : isW B m 4 s = true
    · rw [if_pos c, if_pos c, if_neg (by decide)]; rfl
    · rw [if_neg c, if_neg c, if_pos (show ι 0 = (0 : Int32) from rfl)]; rfl
theorem r_j52 {B : Nat → Nat} {m p s : Nat} {τ : Mem} (h : RP B m τ p) (hs : Skp B m p = s) (x : Int32) : ∃ υ, fX12_readsSlip_j52 x τ = fX12_readsSlip_j79 x (oi (sd B m s)) υ ∧ RP B m υ (if (sd B m s).isSome then Tk B m s else s) ∧ frL τ υ := by
  have hss : Skp B m s = s := by rw [← hs]; exact Skp_idem h.2.1
  unfold fX12_readsSlip_j52 sd
  obtain ⟨υ1, a1, a2, a3, a4⟩ := r_takes (w := 13) h hs (wl_ok 13 (by omega)).1 (wl_ok 13 (by omega)).2
  rw [isW_13] at a1 a2
  rw [a1, Option.bind_some]
  by_cases c : isW B m 3 s = true
  · rw [if_pos c] at a2 ⊢
    rw [if_pos c, if_neg (show ¬ ((ι 1, υ1) : Int32 × Mem).1 = 0 from (by decide : ¬ ι 1 = (0 : Int32)))]
    exact ⟨υ1, rfl, a2, a4⟩
  · rw [if_neg c] at a2 ⊢
    rw [if_neg c, if_pos (show ι 0 = (0 : Int32) from rfl)]
    obtain ⟨υ2, b1, b2, b3, b4⟩ := r_takes (w := 14) a2 hss (wl_ok 14 (by omega)).1 (wl_ok 14 (by omega)).2
    rw [isW_14] at b1 b2
    have fr : frL τ υ2 := fun k j hk => (b4 k j hk).trans (a4 k j hk)
    show ∃ υ, ((fX12_takes 14 υ1).bind _) = _ ∧ _
    rw [b1, Option.bind_some]
    by_cases c : isW B m 4 s = true
    · rw [if_pos c] at b2 ⊢
      rw [if_pos c, if_neg (show ¬ ((ι 1, υ2) : Int32 × Mem).1 = 0 from (by decide : ¬ ι 1 = (0 : Int32)))]
      exact ⟨υ2, rfl, b2, fr⟩
    · rw [if_neg c] at b2 ⊢
      rw [if_neg c, if_pos (show ι 0 = (0 : Int32) from rfl)]
      exact ⟨υ2, rfl, b2, fr⟩
theorem r_j93 {B : Nat → Nat} {m p s a : Nat} {τ : Mem} (h : RP B m τ p) (hs : Skp B m p = s) (h0 : τ 4 0 = ι a) (ha : a < 12) (x y : Int32) :
    (∀ v, nv B m s = some v → 1 ≤ v → v ≤ 2 → ∃ υ, fX12_readsSlip_j93 x y τ = some υ ∧ RP B m υ (Tk B m s) ∧ υ 4 (5 + 3 * a) = x ∧ υ 4 (5 + 3 * a + 1) = y ∧ υ 4 (5 + 3 * a + 2) = ι v ∧ υ 4 0 = ι (a + 1) ∧ (∀ j, j ≠ 0 → j ≠ 5 + 3 * a → j ≠ 5 + 3 * a + 1 → j ≠ 5 + 3 * a + 2 → υ 4 j = τ 4 j) ∧ υ 2 = τ 2 ∧ υ 0 4 = τ 0 4 ∧ frP τ υ) ∧
    ((∀ v, nv B m s = some v → ¬ (1 ≤ v ∧ v ≤ 2)) → ∃ υ, fX12_readsSlip_j93 x y τ = some υ ∧ υ 0 15 = ι s ∧ frP τ υ) := by
  have s2 := (Skp_spec (B := B) h.2.1).2.1
  rw [hs] at s2
  have hm := h.1.1
  have hP2 : RP B m (up (up τ 4 (5 + 3 * a) x) 4 (5 + 3 * a + 1) y) p := ⟨BR_c h.1 (by rw [up_k _ _ _ _ _ (by omega), up_k _ _ _ _ _ (by omega)]) (by rw [up_k _ _ _ _ _ (by omega), up_k _ _ _ _ _ (by omega)]), h.2.1, by rw [up_k _ _ _ _ _ (by omega), up_k _ _ _ _ _ (by omega)]; exact h.2.2.1, by rw [up_k _ _ _ _ _ (by omega), up_k _ _ _ _ _ (by omega)]; exact h.2.2.2⟩
  obtain ⟨g1, g2⟩ := r_num (z := ι 2) (x := 1) hP2 hs (by omega)
  unfold fX12_readsSlip_j93
  simp (disch := omega) only [l_0, l_1, l_2, l_3, l_4, l_5, l_6, l_7, l_8, l_9, l_10, l_12, l_13, l_24, l_31, l_32, l_40, l_41, l_42, l_44, l_45, l_48, l_49, l_50, l_57, l_59, l_60, l_65, l_88, l_89, l_97, l_98, l_99, l_100, l_105, l_108, l_109, l_114, l_118, l_120, l_122, l_144, l_255, l_269, l_279, l_339, l_400, l_600, l_999, l_1000, l_2373, l_2712, ι_lt, ι_le, ι_eq, ι_add, ι_mul, ι_sub, ι_div, ι_n, ι_m1, m1_ι, m1_lt, m1_le, lt_m1, le_m1, m1_lt_m1, m1_le_m1, m1_add1, neg_ι1, ι_addm, ι_addn, Bool.false_eq_true, Nat.not_lt_zero, Nat.add_zero, Nat.zero_add, Nat.mul_zero, Nat.reduceMul, Nat.reduceAdd, Nat.reduceSub, Nat.reduceLT, Nat.reduceLeDiff, Nat.reduceEqDiff, Nat.reduceDiv, Nat.reduceBEq, Nat.reduceBNe, false_or, or_false, true_or, or_true, and_true, true_and, false_and, and_false, not_false_eq_true, not_true_eq_false, if_true, if_false, if_pos, if_neg, Option.bind_some, ite_false, ite_true, eq_self, reduceIte, lm_0, lm_1, lm_2, lm_3, lm_4, lm_5, lm_6, lm_7, lm_8, lm_9, lm_10, lm_11, lm_12, lm_13, lm_14, lm_15, lm_16, lm_17, h0]
  refine ⟨fun v hv h1 h2 => ?_, fun hno => ?_⟩
  · obtain ⟨υ, a1, a2, a3, a4⟩ := g1 v hv (by rw [ι_le (by omega) (by omega)]; exact h1) (by rw [ι_le (by omega) (by omega)]; exact h2)
    rw [a1, Option.bind_some]
    have e4 : ∀ j, υ 4 j = up (up τ 4 (5 + 3 * a) x) 4 (5 + 3 * a + 1) y 4 j := fun j => a4 4 j (by omega)
    have e40 : (up υ 4 (5 + 3 * a + 2) (ι v)) 4 0 = ι a := by
      rw [up_j _ _ _ _ _ (by omega), e4, up_j _ _ _ _ _ (by omega), up_j _ _ _ _ _ (by omega)]; exact h0
    refine ⟨_, rfl, ⟨BR_c a2.1 (by rw [up_k _ _ _ _ _ (by omega), up_k _ _ _ _ _ (by omega)]) (by rw [up_k _ _ _ _ _ (by omega), up_k _ _ _ _ _ (by omega)]), a2.2.1, ?_, ?_⟩, ?_, ?_, ?_, ?_, fun j h1 h2 h3 h4 => ?_, ?_, ?_, fun k j hk => ?_⟩
    · rw [up_k _ _ _ _ _ (by omega), up_k _ _ _ _ _ (by omega)]; exact a2.2.2.1
    · rw [up_k _ _ _ _ _ (by omega), up_k _ _ _ _ _ (by omega)]; exact a2.2.2.2
    · rw [up_j _ _ _ _ _ (by omega), up_j _ _ _ _ _ (by omega)]
      show υ 4 (5 + 3 * a) = x
      rw [e4, up_j _ _ _ _ _ (by omega), up_e]
    · rw [up_j _ _ _ _ _ (by omega), up_j _ _ _ _ _ (by omega)]
      show υ 4 (5 + 3 * a + 1) = y
      rw [e4, up_e]
    · rw [up_j _ _ _ _ _ (by omega), up_e]
    · rw [up_e]
      show up υ 4 (5 + 3 * a + 2) (ι v) 4 0 + ι 1 = _
      rw [e40, ι_add]
    · rw [up_j _ _ _ _ _ h1, up_j _ _ _ _ _ h4]
      show υ 4 j = τ 4 j
      rw [e4, up_j _ _ _ _ _ h3, up_j _ _ _ _ _ h2]
    · rw [up_k _ _ _ _ _ (by omega), up_k _ _ _ _ _ (by omega)]
      refine funext fun j => ?_
      show υ 2 j = τ 2 j
      rw [a4 2 j (by omega), up_k _ _ _ _ _ (by omega), up_k _ _ _ _ _ (by omega)]
    · rw [up_k _ _ _ _ _ (by omega), up_k _ _ _ _ _ (by omega)]
      show υ 0 4 = τ 0 4
      rw [a4 0 4 (by omega), up_k _ _ _ _ _ (by omega), up_k _ _ _ _ _ (by omega)]
    · rw [up_g, if_neg (by omega), up_g, if_neg (by omega)]
      show υ k j = τ k j
      rw [a4 k j (by omega), up_g, if_neg (by omega), up_g, if_neg (by omega)]
  · obtain ⟨υ, p', a1, a2, a3, a4, a5⟩ := g2 (fun v hv z => by
      have hlt := nv_lt s2 hv
      rw [ι_le (by omega) (by omega), ι_le (by omega) (by omega)] at z
      exact hno v hv z)
    rw [a1, Option.bind_some]
    refine ⟨_, rfl, ?_, fun k j hk => ?_⟩
    · rw [up_k _ _ _ _ _ (by omega), up_k _ _ _ _ _ (by omega)]; exact a2
    · rw [up_g, if_neg (by omega), up_g, if_neg (by omega)]
      show υ k j = τ k j
      rw [a5 k j (by omega), up_g, if_neg (by omega), up_g, if_neg (by omega)]
theorem c_ss {σ : Mem} {v : Nat} (hv : v < 10000) : fX11_isSlipSize (ι v) σ = some (if 1 ≤ v ∧ v ≤ 2 then ι 1 else ι 0) := by
  unfold fX11_isSlipSize
  rw [l_1, l_2, ite_lt (by omega) (by omega), ite_lt (by omega) (by omega)]
  repeat' split
  all_goals first | rfl | omega
theorem c_ssN {B : Nat → Nat} {m s : Nat} {σ : Mem} (hs : s ≤ m) (hno : ∀ v, nv B m s = some v → ¬ (1 ≤ v ∧ v ≤ 2)) : fX11_isSlipSize (oi (nv B m s)) σ = some (ι 0) := by
  cases hv : nv B m s with
  | none => show fX11_isSlipSize μ σ = _; unfold fX11_isSlipSize; rw [if_pos (by decide)]; rfl
  | some v => show fX11_isSlipSize (ι v) σ = _; rw [c_ss (nv_lt hs hv), if_neg (hno v hv)]
theorem pB_gone {n a b v : Nat} {F : Nat → Int32} (hF : FI n a b 0 0 F) (hv : v < n) : (F (279 + v) = (1 : Int32)) = ¬ pB F v = true := by
  have := hF.2.2.2.2.2.2.2.2.2.2.2 v hv
  unfold pB
  rw [decide_eq_true_eq]
  rcases this with z | z
  · rw [z]; exact propext ⟨fun y => absurd y (by decide), fun y => absurd rfl y⟩
  · rw [z]; exact propext ⟨fun _ => by decide, fun _ => rfl⟩
theorem slip_sim {B : Nat → Nat} {m s k n a b : Nat} {σ τ : Mem} (hB : BC B m σ) (hT : CT B m σ s) (hD : DR σ τ k n a b) (hk1 : 1 ≤ k) (hP : RP B m τ (Tk B m s)) : Out B m σ τ s (fX6_readSlip 1 σ) (fX12_readsSlip (ι s) τ) := by
  have hm := hB.1
  have hs := hT.1
  obtain ⟨t1, t2, t3, t4⟩ := Tk_spec (B := B) hs
  obtain ⟨u1, u2, u3, u4⟩ := Skp_spec (B := B) t2
  have hQ := hD.1
  have hn := hQ.2.2.2
  have hn1 := QP_pos hQ hk1
  have hF := hD.2.2.1
  have ha := hF.2.1
  have h40 : τ 4 0 = ι a := hF.1
  have hV := hD.2.2.2.1
  have hts : fX10_takesSlip 3 σ = some (if a < 12 then ι 1 else ι 0) := by
    unfold fX10_takesSlip
    rw [hV.2.2.2.1, l_12, ite_le (by omega) (by omega)]
    by_cases c : 12 ≤ a
    · rw [if_pos c, if_neg (by omega)]; rfl
    · rw [if_neg c, if_pos (by omega)]; rfl
  unfold fX6_readSlip fX12_readsSlip
  rw [show (1 + 1) + 1 = 3 from rfl, hts, Option.bind_some, if_neg (show ¬ ((0 : Int32) < 0 ∨ lm 4 ≤ (0 : Int32).toNatClampNeg) by decide), show τ 4 (0 : Int32).toNatClampNeg = ι a from h40]
  by_cases ha12 : a = 12
  · rw [if_neg (show ¬ a < 12 by omega), if_pos (show ι 0 = (0 : Int32) from rfl), if_pos (by rw [ha12]; rfl), r_wrong hP.2.2.2, Option.bind_some]
    exact out_no (fun _ _ => rfl) (fun k j hk => by rw [up_g, if_neg (by omega)]) (by omega) hT.2.2.1 (up_e _ _ _ _)
  · have ha' : a < 12 := by omega
    rw [if_pos ha', if_neg (by decide), if_neg (by rw [l_12, ι_eq (by omega) (by omega)]; exact ha12)]
    obtain ⟨ρ1, a1, a2, a3, a4⟩ := c_nextT hB hT
    obtain ⟨g1, g2⟩ := r_leafRead (x := 0) hP rfl (by omega) hQ hD.2.1 hn1
    rw [a1, Option.bind_some, a2.2.2.2.2]
    have V1 : VR ρ1 3 (τ 2) k n a (τ 4) := VR_c hn ha hV (fun j hj => a4 _ (by omega)) (fun _ _ => rfl)
    have f1 : frQ σ ρ1 := frQ_1 a4
    generalize hs1 : Skp B m (Tk B m s) = s1 at *
    by_cases hok : ∃ v, nv B m s1 = some v ∧ v < n
    · obtain ⟨v, hv, hvn⟩ := hok
      obtain ⟨υ, b1, b2, b3, b4⟩ := g1 v hv (by omega) hvn
      have b1 : fX12_leafRead (0 : Int32) τ = some (ι v, υ) := b1
      have e4 : υ 4 = τ 4 := funext fun j => b4 4 j (by omega)
      have hfn : ¬ ((279 : Int32) + ι v < 0 ∨ lm 4 ≤ ((279 : Int32) + ι v).toNatClampNeg) := by simp (disch := omega) only [l_0, l_1, l_2, l_3, l_4, l_5, l_6, l_7, l_8, l_9, l_10, l_12, l_13, l_24, l_31, l_32, l_40, l_41, l_42, l_44, l_45, l_48, l_49, l_50, l_57, l_59, l_60, l_65, l_88, l_89, l_97, l_98, l_99, l_100, l_105, l_108, l_109, l_114, l_118, l_120, l_122, l_144, l_255, l_269, l_279, l_339, l_400, l_600, l_999, l_1000, l_2373, l_2712, ι_lt, ι_le, ι_eq, ι_add, ι_mul, ι_sub, ι_div, ι_n, ι_m1, m1_ι, m1_lt, m1_le, lt_m1, le_m1, m1_lt_m1, m1_le_m1, m1_add1, neg_ι1, ι_addm, ι_addn, Bool.false_eq_true, Nat.not_lt_zero, Nat.add_zero, Nat.zero_add, Nat.mul_zero, Nat.reduceMul, Nat.reduceAdd, Nat.reduceSub, Nat.reduceLT, Nat.reduceLeDiff, Nat.reduceEqDiff, Nat.reduceDiv, Nat.reduceBEq, Nat.reduceBNe, false_or, or_false, true_or, or_true, and_true, true_and, false_and, and_false, not_false_eq_true, not_true_eq_false, if_true, if_false, if_pos, if_neg, Option.bind_some, ite_false, ite_true, eq_self, reduceIte, lm_0, lm_1, lm_2, lm_3, lm_4, lm_5, lm_6, lm_7, lm_8, lm_9, lm_10, lm_11, lm_12, lm_13, lm_14, lm_15, lm_16, lm_17]; omega
      have hnn : ((279 : Int32) + ι v).toNatClampNeg = 279 + v := by simp (disch := omega) only [l_0, l_1, l_2, l_3, l_4, l_5, l_6, l_7, l_8, l_9, l_10, l_12, l_13, l_24, l_31, l_32, l_40, l_41, l_42, l_44, l_45, l_48, l_49, l_50, l_57, l_59, l_60, l_65, l_88, l_89, l_97, l_98, l_99, l_100, l_105, l_108, l_109, l_114, l_118, l_120, l_122, l_144, l_255, l_269, l_279, l_339, l_400, l_600, l_999, l_1000, l_2373, l_2712, ι_lt, ι_le, ι_eq, ι_add, ι_mul, ι_sub, ι_div, ι_n, ι_m1, m1_ι, m1_lt, m1_le, lt_m1, le_m1, m1_lt_m1, m1_le_m1, m1_add1, neg_ι1, ι_addm, ι_addn, Bool.false_eq_true, Nat.not_lt_zero, Nat.add_zero, Nat.zero_add, Nat.mul_zero, Nat.reduceMul, Nat.reduceAdd, Nat.reduceSub, Nat.reduceLT, Nat.reduceLeDiff, Nat.reduceEqDiff, Nat.reduceDiv, Nat.reduceBEq, Nat.reduceBNe, false_or, or_false, true_or, or_true, and_true, true_and, false_and, and_false, not_false_eq_true, not_true_eq_false, if_true, if_false, if_pos, if_neg, Option.bind_some, ite_false, ite_true, eq_self, reduceIte]
      rw [b1, Option.bind_some, hv]
      show Out B m σ τ s ((fX10_isPresent 3 (ι v) ρ1).bind _) ((fX12_isFine υ).bind _)
      rw [r_fine b2.2.2.2, Option.bind_some, if_neg (by decide), c_isPresent hn V1 hvn, Option.bind_some]
      show Out B m σ τ s _ (if (279 : Int32) + ι v < 0 ∨ lm 4 ≤ ((279 : Int32) + ι v).toNatClampNeg then none else if υ 4 ((279 : Int32) + ι v).toNatClampNeg = (1 : Int32) then (fX12_wrongAt (υ 0 14) υ).bind fun v49 => fX12_readsSlip_j52 (ι v) v49 else fX12_readsSlip_j52 (ι v) υ)
      rw [if_neg hfn, hnn, e4]
      by_cases hp : pB (τ 4) v = true
      · rw [if_pos hp, if_neg (by decide), if_neg (show ¬ τ 4 (279 + v) = (1 : Int32) by rw [pB_gone hF hvn]; exact fun z => z hp)]
        obtain ⟨tt1, tt2, tt3, tt4⟩ := Tk_spec (B := B) u2
        obtain ⟨uu1, uu2, uu3, uu4⟩ := Skp_spec (B := B) tt2
        obtain ⟨ρ2, c1, c2, c3, c4⟩ := c_nextT a3 a2
        obtain ⟨υ2, d1, d2, d3⟩ := r_j52 b2 rfl (ι v)
        rw [c1, Option.bind_some, c_side c3 c2, Option.bind_some, d1]
        have f2 : frQ σ ρ2 := frQ_trans f1 (frQ_1 c4)
        have fr2 : frM τ υ2 := frM_trans (frL_M b4) (frL_M d3)
        have h402 : υ2 4 0 = ι a := (fr2 4 0 (by omega)).trans h40
        generalize hs2 : Skp B m (Tk B m s1) = s2 at *
        cases hsd : sd B m s2 with
        | none =>
          rw [hsd] at d2
          have d2 : RP B m υ2 s2 := d2
          rw [if_pos (show oi none = (-1 : Int32) from rfl)]
          unfold fX12_readsSlip_j79 fX12_tokenNow
          rw [if_pos (show oi none = (-1 : Int32) from rfl)]
          obtain ⟨υ3, e1, e2, e3, e5⟩ := r_look d2.1 d2.2.1 d2.2.2.1
          have hss : Skp B m s2 = s2 := by rw [← hs2]; exact Skp_idem tt2
          rw [hss] at e1 e2 e3
          have k15 : υ3 0 15 = μ := (e5 0 15 (by omega)).trans d2.2.2.2
          rw [e1, Option.bind_some, Option.bind_some, r_wrong k15, Option.bind_some]
          have hBD : BD B m (up υ3 0 15 (υ3 0 14)) s2 := ⟨BR_c (frM_BR (frL_M e5) d2.1) (by rw [up_j _ _ _ _ _ (by omega)]) (by rw [up_k _ _ _ _ _ (by omega)]), by omega, by rw [up_e]; exact e3, s2, uu2, by rw [up_j _ _ _ _ _ (by omega)]; exact e2⟩
          obtain ⟨ω, q1, q2, q3⟩ := bad_j93 hBD (a := a) (by rw [up_k _ _ _ _ _ (by omega), e5 4 0 (by omega)]; exact h402) ha' (ι v) (oi none)
          show Out B m σ τ s _ (fX12_readsSlip_j93 (ι v) (oi none) (up υ3 0 15 (υ3 0 14)))
          rw [q1]
          refine out_no (s' := s2) f2 (frP_trans (frP_trans (frP_M fr2) (frP_trans (frP_M (frL_M e5)) (fun k j hk => ?_))) q3) (by omega) c2.2.2.1 q2
          rw [up_g, if_neg (by omega)]
        | some i =>
          have hi := sd_lt hsd
          rw [hsd] at d2
          have d2 : RP B m υ2 (Tk B m s2) := d2
          have hne : ¬ oi (some i) = (-1 : Int32) := oi_pos rfl (by omega)
          rw [if_neg hne]
          unfold fX12_readsSlip_j79
          rw [if_neg hne]
          obtain ⟨w1, w2, w3, w4⟩ := Tk_spec (B := B) uu2
          obtain ⟨x1, x2, x3, x4⟩ := Skp_spec (B := B) w2
          obtain ⟨ρ3, e1, e2, e3, e5⟩ := c_nextT c3 c2
          obtain ⟨j1, j2⟩ := r_j93 d2 rfl h402 ha' (ι v) (ι i)
          rw [e1, Option.bind_some, e2.2.2.2.2]
          have f3 : frQ σ ρ3 := frQ_trans f2 (frQ_1 e5)
          generalize hs3 : Skp B m (Tk B m s2) = s3 at *
          by_cases hok3 : ∃ w, nv B m s3 = some w ∧ 1 ≤ w ∧ w ≤ 2
          · obtain ⟨w, hw, hw1, hw2⟩ := hok3
            have hwl := nv_lt x2 hw
            obtain ⟨ω, q1, q2, q3, q4, q5, q6, q7, q8, q9, q10⟩ := j1 w hw hw1 hw2
            rw [hw]
            show Out B m σ τ s ((fX11_isSlipSize (ι w) ρ3).bind _) (fX12_readsSlip_j93 (ι v) (ι i) υ2)
            rw [c_ss hwl, Option.bind_some, if_pos (show 1 ≤ w ∧ w ≤ 2 from ⟨hw1, hw2⟩), if_neg (by decide), q1]
            have hD3 : DR ρ3 υ2 k n a b := DR_1 hD (fun j hj => by rw [e5 j hj, c4 j hj, a4 j hj]) fr2
            obtain ⟨ρ4, y1, y2, y3⟩ := slip_DR hD3 ha' hvn hi (show w = 1 ∨ w = 2 by omega) q8 q9 q3 q4 q5 q6 q7
            have y1 : fX10_addSlip 3 (oi (some v)) (oi (some i)) (oi (some w)) ρ3 = some ρ4 := y1
            rw [y1, Option.bind_some]
            obtain ⟨ρ5, z1, z2, z3, z4⟩ := c_nextT (frQ_BC (frQ_3 y3) e3) (CT_c e2 (y3 1 (by omega)))
            rw [z1, Option.bind_some]
            have hw' := Tk_spec (B := B) x2
            have hx' := Skp_spec (B := B) hw'.2.1
            exact out_yes (frQ_trans f3 (frQ_trans (frQ_3 y3) (frQ_1 z4))) (frP_trans (frP_M fr2) q10) hk1 (DR_c y2 (fun j h1 h2 => z4 j (by omega)) rfl rfl rfl) z2 q2 rfl (by omega)
          · have hno3 : ∀ w, nv B m s3 = some w → ¬ (1 ≤ w ∧ w ≤ 2) := fun w hw z => hok3 ⟨w, hw, z.1, z.2⟩
            obtain ⟨ω, q1, q2, q3⟩ := j2 hno3
            rw [c_ssN x2 hno3, Option.bind_some, if_pos (show ι 0 = (0 : Int32) from rfl)]
            show Out B m σ τ s _ (fX12_readsSlip_j93 (ι v) (ι i) υ2)
            rw [q1]
            exact out_no (s' := s3) f3 (frP_trans (frP_M fr2) q3) (by omega) e2.2.2.1 q2
      · rw [if_neg hp, if_pos (show ι 0 = (0 : Int32) from rfl), if_pos (show τ 4 (279 + v) = (1 : Int32) by rw [pB_gone hF hvn]; exact hp), r_wrong b2.2.2.2, Option.bind_some]
        have hBD : BD B m (up υ 0 15 (υ 0 14)) s1 := ⟨BR_c b2.1 (by rw [up_j _ _ _ _ _ (by omega)]) (by rw [up_k _ _ _ _ _ (by omega)]), by omega, by rw [up_e]; exact b3, _, b2.2.1, by rw [up_j _ _ _ _ _ (by omega)]; exact b2.2.2.1⟩
        obtain ⟨ω, q1, q2, q3⟩ := bad_j52 hBD (a := a) (by rw [up_k _ _ _ _ _ (by omega), e4]; exact h40) ha' (ι v)
        rw [q1]
        refine out_no (s' := s1) f1 (frP_trans (frP_M (frL_M b4)) (frP_trans (fun k j hk => ?_) q3)) (by omega) a2.2.2.1 q2
        rw [up_g, if_neg (by omega)]
    · have hno : ∀ v, nv B m s1 = some v → ¬ (0 ≤ v ∧ v < n) := fun v hv z => hok ⟨v, hv, z.2⟩
      obtain ⟨υ, b1, b2, b3⟩ := g2 hno
      have b1 : fX12_leafRead (0 : Int32) τ = some (ι 0, υ) := b1
      have hip : fX10_isPresent 3 (oi (nv B m s1)) ρ1 = some (ι 0) := by
        cases hv : nv B m s1 with
        | none => exact c_isPresent_neg (by decide)
        | some v =>
          have hlt := nv_lt u2 hv
          exact c_isPresent_out hn V1 (Nat.le_of_not_lt fun z => hno v hv ⟨by omega, z⟩) (by omega)
      obtain ⟨ω, q1, q2, q3⟩ := bad_j52 b2 (a := a) ((b3 4 0 (by omega)).trans h40) ha' (ι 0)
      rw [hip, b1, Option.bind_some, Option.bind_some, if_pos (show ι 0 = (0 : Int32) from rfl)]
      show Out B m σ τ s _ ((fX12_isFine υ).bind _)
      rw [r_notf b2.2.2.1 b2.2.1, Option.bind_some, if_pos (show ι 0 = (0 : Int32) from rfl)]
      show Out B m σ τ s _ (fX12_readsSlip_j52 (ι 0) υ)
      rw [q1]
      exact out_no (s' := s1) f1 (frP_trans (frP_M b3) q3) (by omega) a2.2.2.1 q2
