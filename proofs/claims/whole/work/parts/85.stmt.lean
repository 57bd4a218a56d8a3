/-! PURE PART: statements of the setup text -/
def frQ (σ ρ : Mem) : Prop := ∀ j, ¬ (1 ≤ j ∧ j ≤ 32) → ρ j = σ j
def frP (τ υ : Mem) : Prop := ∀ k j, ¬ (k = 2 ∨ k = 4 ∨ (k = 0 ∧ (j = 4 ∨ j = 13 ∨ j = 14 ∨ j = 15))) → υ k j = τ k j
theorem frP_M {τ υ : Mem} (h : frM τ υ) : frP τ υ := fun k j hk => h k j (by omega)
theorem frP_trans {τ υ ω : Mem} (h1 : frP τ υ) (h2 : frP υ ω) : frP τ ω := fun k j hk => (h2 k j hk).trans (h1 k j hk)
theorem frQ_trans {τ υ ω : Mem} (h1 : frQ τ υ) (h2 : frQ υ ω) : frQ τ ω := fun j hk => (h2 j hk).trans (h1 j hk)
theorem frQ_1 {σ ρ : Mem} (h : ∀ j, j ≠ 1 → ρ j = σ j) : frQ σ ρ := fun j hj => h j (by omega)
theorem frQ_3 {σ ρ : Mem} (h : ∀ j, ¬ (3 ≤ j ∧ j ≤ 32) → ρ j = σ j) : frQ σ ρ := fun j hj => h j (by omega)
theorem frP_BR {B : Nat → Nat} {m : Nat} {τ υ : Mem} (h : frP τ υ) (hB : BR B m τ) : BR B m υ := BR_c hB (h 0 12 (by omega)) (funext fun j => h 7 j (by omega))
theorem frQ_BC {B : Nat → Nat} {m : Nat} {σ ρ : Mem} (h : frQ σ ρ) (hB : BC B m σ) : BC B m ρ := BC_c hB (h 33 (by omega)) (h 34 (by omega))
theorem DR_1 {σ τ ρ υ : Mem} {k n a b : Nat} (h : DR σ τ k n a b) (hσ : ∀ j, j ≠ 1 → ρ j = σ j) (hτ : frM τ υ) : DR ρ υ k n a b := DR_c h (fun j h1 h2 => hσ j (by omega)) (funext fun j => hτ 2 j (by omega)) (funext fun j => hτ 4 j (by omega)) (hτ 0 4 (by omega))
def Out (B : Nat → Nat) (m : Nat) (σ τ : Mem) (s : Nat) (c : Option (Int32 × Mem)) (r : Option Mem) : Prop := ∃ x ρ υ, c = some (x, ρ) ∧ r = some υ ∧ frQ σ ρ ∧ frP τ υ ∧
  ((x = 1 ∧ ∃ k n a b s' p', 1 ≤ k ∧ DR ρ υ k n a b ∧ CT B m ρ s' ∧ RP B m υ p' ∧ Skp B m p' = s' ∧ s ≤ s') ∨ (x = 0 ∧ ∃ s', s' ≤ 600 ∧ ρ 1 3 = ι s' ∧ υ 0 15 = ι s'))
theorem out_no {B : Nat → Nat} {m : Nat} {σ τ ρ υ : Mem} {s s' : Nat} (h1 : frQ σ ρ) (h2 : frP τ υ) (h3 : s' ≤ 600) (h4 : ρ 1 3 = ι s') (h5 : υ 0 15 = ι s') : Out B m σ τ s (some (0, ρ)) (some υ) := ⟨0, ρ, υ, rfl, rfl, h1, h2, Or.inr ⟨rfl, s', h3, h4, h5⟩⟩
theorem out_yes {B : Nat → Nat} {m : Nat} {σ τ ρ υ : Mem} {s s' p' k n a b : Nat} (h1 : frQ σ ρ) (h2 : frP τ υ) (h3 : 1 ≤ k) (h4 : DR ρ υ k n a b) (h5 : CT B m ρ s') (h6 : RP B m υ p') (h7 : Skp B m p' = s') (h8 : s ≤ s') : Out B m σ τ s (some (1, ρ)) (some υ) := ⟨1, ρ, υ, rfl, rfl, h1, h2, Or.inl ⟨rfl, k, n, a, b, s', p', h3, h4, h5, h6, h7, h8⟩⟩
def BD (B : Nat → Nat) (m : Nat) (τ : Mem) (e : Nat) : Prop := BR B m τ ∧ e ≤ 600 ∧ τ 0 15 = ι e ∧ ∃ p, p ≤ m ∧ τ 0 13 = ι p
theorem BD_c {B : Nat → Nat} {m e : Nat} {τ υ : Mem} (h : BD B m τ e) (h7 : υ 7 = τ 7) (h12 : υ 0 12 = τ 0 12) (h13 : υ 0 13 = τ 0 13) (h15 : υ 0 15 = τ 0 15) : BD B m υ e := by
  obtain ⟨b1, b2, b3, p, b4, b5⟩ := h
  exact ⟨BR_c b1 h12 h7, b2, h15.trans b3, p, b4, h13.trans b5⟩
theorem bad_takes {B : Nat → Nat} {m e w : Nat} {τ : Mem} (h : BD B m τ e) : fX12_takes w τ = some (0, τ) := by
  unfold fX12_takes; rw [r_notf h.2.2.1 h.2.1, Option.bind_some, if_pos (show ι 0 = (0 : Int32) from rfl)]
theorem bad_number {B : Nat → Nat} {m e : Nat} {τ : Mem} (h : BD B m τ e) (x z : Int32) : fX12_number x z τ = some (x, τ) := by
  unfold fX12_number; rw [r_notf h.2.2.1 h.2.1, Option.bind_some, if_pos (show ι 0 = (0 : Int32) from rfl)]
theorem bad_look {B : Nat → Nat} {m e : Nat} {τ : Mem} (h : BD B m τ e) : ∃ v υ, fX12_look τ = some (v, υ) ∧ BD B m υ e ∧ frL τ υ := by
  obtain ⟨b1, b2, b3, p, b4, b5⟩ := h
  obtain ⟨υ, a1, a2, a3, a4⟩ := r_look b1 b4 b5
  exact ⟨_, υ, a1, ⟨frM_BR (frL_M a4) b1, b2, (a4 0 15 (by omega)).trans b3, _, (Skp_spec b4).2.1, a2⟩, a4⟩
theorem r_leafRead {B : Nat → Nat} {m p s x k n : Nat} {τ : Mem} (h : RP B m τ p) (hs : Skp B m p = s) (hx : x < 100) (hQ : QP (τ 2) k n) (h4 : τ 0 4 = ι k) (hn : 1 ≤ n) :
    (∀ v, nv B m s = some v → x ≤ v → v < n → ∃ υ, fX12_leafRead (ι x) τ = some (ι v, υ) ∧ RP B m υ (Tk B m s) ∧ υ 0 14 = ι s ∧ frL τ υ) ∧
    ((∀ v, nv B m s = some v → ¬ (x ≤ v ∧ v < n)) → ∃ υ, fX12_leafRead (ι x) τ = some (ι x, υ) ∧ BD B m υ s ∧ frM τ υ) := by
  have hn60 := hQ.2.2.2
  have hm := h.1.1
  have s2 := (Skp_spec (B := B) h.2.1).2.1
  rw [hs] at s2
  obtain ⟨g1, g2⟩ := r_num (z := ι (n - 1)) h hs (show x < 2147483648 by omega)
  unfold fX12_leafRead
  rw [r_leavesRead hQ h4, Option.bind_some, l_1, ι_sub hn]
  refine ⟨fun v hv h1 h2 => ?_, fun hno => ?_⟩
  · have hlt := nv_lt s2 hv
    obtain ⟨υ, a1, a2, a3, a4⟩ := g1 v hv (by rw [ι_le (by omega) (by omega)]; exact h1) (by rw [ι_le (by omega) (by omega)]; omega)
    exact ⟨υ, by rw [a1, Option.bind_some], a2, a3, a4⟩
  · obtain ⟨υ, p', a1, a2, a3, a4, a5⟩ := g2 (fun v hv z => by
      have hlt := nv_lt s2 hv
      rw [ι_le (by omega) (by omega), ι_le (by omega) (by omega)] at z
      exact hno v hv (by omega))
    exact ⟨υ, by rw [a1, Option.bind_some], ⟨frM_BR a5 h.1, by omega, a2, p', a3, a4⟩, a5⟩
theorem quire_sim {B : Nat → Nat} {m s k n a b : Nat} {σ τ : Mem} (hB : BC B m σ) (hT : CT B m σ s) (hD : DR σ τ k n a b) (hP : RP B m τ (Tk B m s)) : Out B m σ τ s (fX6_readQuire 1 σ) (fX12_readsQuire (ι s) τ) := by
  have hm := hB.1
  have hs := hT.1
  obtain ⟨t1, t2, t3, t4⟩ := Tk_spec (B := B) hs
  obtain ⟨u1, u2, u3, u4⟩ := Skp_spec (B := B) t2
  have hQ := hD.1
  have hk := hQ.1
  have hn := hQ.2.2.2
  have h04 := hD.2.1
  have hV := hD.2.2.2.1
  unfold fX6_readQuire fX12_readsQuire
  rw [show (1 + 1) + 1 = 3 from rfl, c_tq hV.2.1 hk, Option.bind_some, h04]
  by_cases hk8 : k = 8
  · rw [if_neg (show ¬ k < 8 by omega), if_pos (show ι 0 = (0 : Int32) from rfl), if_pos (by rw [hk8]; rfl), r_wrong hP.2.2.2, Option.bind_some]
    exact out_no (fun _ _ => rfl) (fun k j hk => by rw [up_g, if_neg (by omega)]) (by omega) hT.2.2.1 (up_e _ _ _ _)
  · rw [if_pos (show k < 8 by omega), if_neg (by decide), if_neg (by rw [l_8, ι_eq (by omega) (by omega)]; exact hk8), r_leavesRead hQ h04, Option.bind_some]
    obtain ⟨ρ1, a1, a2, a3, a4⟩ := c_nextT hB hT
    have z : (if (60 : Int32) - ι n < (12 : Int32) then (60 : Int32) - ι n else (12 : Int32)) = ι (if 60 - n < 12 then 60 - n else 12) := by
      rw [l_60, l_12, ι_sub hn, ite_lt (by omega) (by omega)]
      by_cases c : 60 - n < 12
      · rw [if_pos c, if_pos c]
      · rw [if_neg c, if_neg c]
    have hz : (if 60 - n < 12 then 60 - n else 12) ≤ 12 ∧ (∀ v, v ≤ (if 60 - n < 12 then 60 - n else 12) ↔ (v ≤ 12 ∧ n + v ≤ 60)) := by
      by_cases c : 60 - n < 12
      · rw [if_pos c]; exact ⟨by omega, fun v => by omega⟩
      · rw [if_neg c]; exact ⟨by omega, fun v => by omega⟩
    rw [z, a1, Option.bind_some, a2.2.2.2.2]
    generalize (if 60 - n < 12 then 60 - n else 12) = zz at *
    obtain ⟨g1, g2⟩ := r_num (z := ι zz) (x := 2) hP rfl (by omega)
    have f2 : frQ σ ρ1 := frQ_1 a4
    have V1 : σ 3 = ρ1 3 := (a4 3 (by omega)).symm
    have w6 : ρ1 3 6 = ι n := by rw [← V1]; exact hV.2.2.1
    generalize hs1 : Skp B m (Tk B m s) = s1 at *
    have bad : (∀ v, nv B m s1 = some v → ¬ (ι 2 ≤ ι v ∧ ι v ≤ ι zz)) → fX10_takesLeaves 3 (oi (nv B m s1)) ρ1 = some (ι 0) := fun hno => by
      cases hv : nv B m s1 with
      | none => exact c_tl_neg
      | some v =>
        have hlt := nv_lt u2 hv
        have := hno v hv
        rw [ι_le (by omega) (by omega), ι_le (by omega) (by omega)] at this
        have h3 := (hz.2 v).mpr
        exact c_tl_no w6 hn hlt (fun t => this ⟨t.1, h3 ⟨t.2.1, t.2.2.2⟩⟩)
    by_cases hok : ∃ v, nv B m s1 = some v ∧ ι 2 ≤ ι v ∧ ι v ≤ ι zz
    · obtain ⟨v, hv, q1, q2⟩ := hok
      have hlt := nv_lt u2 hv
      have q1' := q1
      have q2' := q2
      rw [ι_le (by omega) (by omega)] at q1' q2'
      have hzz := (hz.2 v).mp q2'
      obtain ⟨υ, b1, b2, b3, b4⟩ := g1 v hv q1 q2
      have b1 : fX12_number (2 : Int32) (ι zz) τ = some (ι v, υ) := b1
      have e04 : υ 0 4 = ι k := (b4 0 4 (by omega)).trans h04
      have hfn : ¬ (ι k < (0 : Int32) ∨ lm 2 ≤ (ι k).toNatClampNeg) := by simp (disch := omega) only [l_0, l_1, l_2, l_3, l_4, l_5, l_6, l_7, l_8, l_9, l_10, l_12, l_13, l_24, l_31, l_32, l_40, l_41, l_42, l_44, l_45, l_48, l_49, l_50, l_57, l_59, l_60, l_65, l_88, l_89, l_97, l_98, l_99, l_100, l_105, l_108, l_109, l_114, l_118, l_120, l_122, l_144, l_255, l_269, l_279, l_339, l_400, l_600, l_999, l_1000, l_2373, l_2712, ι_lt, ι_le, ι_eq, ι_add, ι_mul, ι_sub, ι_div, ι_n, ι_m1, m1_ι, m1_lt, m1_le, lt_m1, le_m1, m1_lt_m1, m1_le_m1, m1_add1, neg_ι1, ι_addm, ι_addn, Bool.false_eq_true, Nat.not_lt_zero, Nat.add_zero, Nat.zero_add, Nat.mul_zero, Nat.reduceMul, Nat.reduceAdd, Nat.reduceSub, Nat.reduceLT, Nat.reduceLeDiff, Nat.reduceEqDiff, Nat.reduceDiv, Nat.reduceBEq, Nat.reduceBNe, false_or, or_false, true_or, or_true, and_true, true_and, false_and, and_false, not_false_eq_true, not_true_eq_false, if_true, if_false, if_pos, if_neg, Option.bind_some, ite_false, ite_true, eq_self, reduceIte, lm_0, lm_1, lm_2, lm_3, lm_4, lm_5, lm_6, lm_7, lm_8, lm_9, lm_10, lm_11, lm_12, lm_13, lm_14, lm_15, lm_16, lm_17]; omega
      rw [b1, Option.bind_some, hv]
      show Out B m σ τ s _ ((fX12_isFine υ).bind _)
      rw [r_fine b2.2.2.2, Option.bind_some, if_neg (by decide)]
      show Out B m σ τ s ((fX10_takesLeaves 3 (ι v) ρ1).bind _) (if ι v - ι v / (2 : Int32) * (2 : Int32) = (1 : Int32) then (fX12_wrongAt (υ 0 14) υ).bind _ else if υ 0 4 < 0 ∨ lm 2 ≤ (υ 0 4).toNatClampNeg then none else some _)
      have hpar : ι v - ι v / (2 : Int32) * (2 : Int32) = ι (v % 2) := by
        simp (disch := omega) only [l_0, l_1, l_2, l_3, l_4, l_5, l_6, l_7, l_8, l_9, l_10, l_12, l_13, l_24, l_31, l_32, l_40, l_41, l_42, l_44, l_45, l_48, l_49, l_50, l_57, l_59, l_60, l_65, l_88, l_89, l_97, l_98, l_99, l_100, l_105, l_108, l_109, l_114, l_118, l_120, l_122, l_144, l_255, l_269, l_279, l_339, l_400, l_600, l_999, l_1000, l_2373, l_2712, ι_lt, ι_le, ι_eq, ι_add, ι_mul, ι_sub, ι_div, ι_n, ι_m1, m1_ι, m1_lt, m1_le, lt_m1, le_m1, m1_lt_m1, m1_le_m1, m1_add1, neg_ι1, ι_addm, ι_addn, Bool.false_eq_true, Nat.not_lt_zero, Nat.add_zero, Nat.zero_add, Nat.mul_zero, Nat.reduceMul, Nat.reduceAdd, Nat.reduceSub, Nat.reduceLT, Nat.reduceLeDiff, Nat.reduceEqDiff, Nat.reduceDiv, Nat.reduceBEq, Nat.reduceBNe, false_or, or_false, true_or, or_true, and_true, true_and, false_and, and_false, not_false_eq_true, not_true_eq_false, if_true, if_false, if_pos, if_neg, Option.bind_some, ite_false, ite_true, eq_self, reduceIte]
        congr 1; omega
      rw [hpar, l_1, ite_eq (by omega) (by omega)]
      by_cases hodd : v % 2 = 1
      · rw [c_tl_no w6 hn hlt (fun t => by have := t.2.2.1; omega), Option.bind_some, if_pos (show ι 0 = (0 : Int32) from rfl), if_pos hodd, r_wrong b2.2.2.2, Option.bind_some]
        have e4 : up υ 0 15 (υ 0 14) 0 4 = ι k := by rw [up_j _ _ _ _ _ (by omega)]; exact e04
        rw [e4, if_neg hfn]
        refine out_no (s' := s1) f2 (fun k' j hk' => ?_) (by omega) a2.2.2.1 ?_
        · rw [up_g, if_neg (by omega), up_g, if_neg (by omega), up_g, if_neg (by omega)]
          exact b4 k' j (by omega)
        · rw [up_j _ _ _ _ _ (by omega), up_k _ _ _ _ _ (by omega), up_e]; exact b3
      · rw [if_neg hodd, e04, if_neg hfn]
        show Out B m σ τ s _ (some (up (up υ 2 (υ 0 4).toNatClampNeg (ι v)) 0 4 (up υ 2 (υ 0 4).toNatClampNeg (ι v) 0 4 + ι 1)))
        rw [e04, ι_n (by omega)]
        have htl : tlB n v := ⟨q1', hzz.1, by omega, hzz.2⟩
        have x4 : up υ 2 k (ι v) 0 4 = ι k := by rw [up_k _ _ _ _ _ (by omega)]; exact e04
        rw [c_tl w6 hn hlt htl, Option.bind_some, if_neg (by decide), x4, ι_add]
        have hD1 : DR ρ1 υ k n a b := DR_1 hD a4 (frL_M b4)
        obtain ⟨ρ2, c1, c2, c3⟩ := quire_DR (υ := up (up υ 2 k (ι v)) 0 4 (ι (k + 1))) hD1 (by omega) htl (by rw [up_k _ _ _ _ _ (by omega), up_e]) (fun i hi => by rw [up_k _ _ _ _ _ (by omega), up_j _ _ _ _ _ hi]) (by rw [up_k _ _ _ _ _ (by omega), up_k _ _ _ _ _ (by omega)]) (up_e _ _ _ _)
        have hB2 := frQ_BC (frQ_3 c3) a3
        have hT2 := CT_c a2 (c3 1 (by omega))
        obtain ⟨ρ3, d1, d2, d3, d4⟩ := c_nextT hB2 hT2
        have c1 : fX10_addQuire 3 (oi (some v)) ρ1 = some ρ2 := c1
        rw [c1, Option.bind_some, d1, Option.bind_some]
        obtain ⟨tt1, tt2, tt3, tt4⟩ := Tk_spec (B := B) u2
        refine out_yes (s' := Skp B m (Tk B m s1)) (p' := Tk B m s1) (frQ_trans f2 (frQ_trans (frQ_3 c3) (frQ_1 d4))) (fun k' j hk' => ?_) (show 1 ≤ k + 1 by omega) (DR_c c2 (fun j h1 h2 => d4 j (by omega)) rfl rfl rfl) d2 ⟨?_, tt2, ?_, ?_⟩ rfl ?_
        · rw [up_g, if_neg (by omega), up_g, if_neg (by omega)]; exact b4 k' j (by omega)
        · exact BR_c b2.1 (by rw [up_j _ _ _ _ _ (by omega), up_k _ _ _ _ _ (by omega)]) (by rw [up_k _ _ _ _ _ (by omega), up_k _ _ _ _ _ (by omega)])
        · rw [up_j _ _ _ _ _ (by omega), up_k _ _ _ _ _ (by omega)]; exact b2.2.2.1
        · rw [up_j _ _ _ _ _ (by omega), up_k _ _ _ _ _ (by omega)]; exact b2.2.2.2
        · have := (Skp_spec (B := B) tt2).1; omega
    · have hno : ∀ v, nv B m s1 = some v → ¬ (ι 2 ≤ ι v ∧ ι v ≤ ι zz) := fun v hv z => hok ⟨v, hv, z.1, z.2⟩
      obtain ⟨υ, p', b1, b2, b3, b4, b5⟩ := g2 hno
      have b1 : fX12_number (2 : Int32) (ι zz) τ = some (ι 2, υ) := b1
      have e04 : υ 0 4 = ι k := (b5 0 4 (by omega)).trans h04
      have hfn : ¬ (ι k < (0 : Int32) ∨ lm 2 ≤ (ι k).toNatClampNeg) := by simp (disch := omega) only [l_0, l_1, l_2, l_3, l_4, l_5, l_6, l_7, l_8, l_9, l_10, l_12, l_13, l_24, l_31, l_32, l_40, l_41, l_42, l_44, l_45, l_48, l_49, l_50, l_57, l_59, l_60, l_65, l_88, l_89, l_97, l_98, l_99, l_100, l_105, l_108, l_109, l_114, l_118, l_120, l_122, l_144, l_255, l_269, l_279, l_339, l_400, l_600, l_999, l_1000, l_2373, l_2712, ι_lt, ι_le, ι_eq, ι_add, ι_mul, ι_sub, ι_div, ι_n, ι_m1, m1_ι, m1_lt, m1_le, lt_m1, le_m1, m1_lt_m1, m1_le_m1, m1_add1, neg_ι1, ι_addm, ι_addn, Bool.false_eq_true, Nat.not_lt_zero, Nat.add_zero, Nat.zero_add, Nat.mul_zero, Nat.reduceMul, Nat.reduceAdd, Nat.reduceSub, Nat.reduceLT, Nat.reduceLeDiff, Nat.reduceEqDiff, Nat.reduceDiv, Nat.reduceBEq, Nat.reduceBNe, false_or, or_false, true_or, or_true, and_true, true_and, false_and, and_false, not_false_eq_true, not_true_eq_false, if_true, if_false, if_pos, if_neg, Option.bind_some, ite_false, ite_true, eq_self, reduceIte, lm_0, lm_1, lm_2, lm_3, lm_4, lm_5, lm_6, lm_7, lm_8, lm_9, lm_10, lm_11, lm_12, lm_13, lm_14, lm_15, lm_16, lm_17]; omega
      rw [bad hno, b1, Option.bind_some, Option.bind_some]
      show Out B m σ τ s _ ((fX12_isFine υ).bind _)
      rw [r_notf b2 (by omega), Option.bind_some, if_pos (show ι 0 = (0 : Int32) from rfl), if_pos (show ι 0 = (0 : Int32) from rfl)]
      show Out B m σ τ s _ (if υ 0 4 < 0 ∨ lm 2 ≤ (υ 0 4).toNatClampNeg then none else some _)
      rw [e04, if_neg hfn]
      refine out_no (s' := s1) f2 (fun k' j hk' => ?_) (by omega) a2.2.2.1 ?_
      · rw [up_g, if_neg (by omega), up_g, if_neg (by omega)]
        exact b5 k' j (by omega)
      · rw [up_j _ _ _ _ _ (by omega), up_k _ _ _ _ _ (by omega)]; exact b2
theorem bad_j93 {B : Nat → Nat} {m e a : Nat} {τ : Mem} (h : BD B m τ e) (h0 : τ 4 0 = ι a) (ha : a < 12) (x y : Int32) : ∃ υ, fX12_readsSlip_j93 x y τ = some υ ∧ υ 0 15 = ι e ∧ frP τ υ := by
  unfold fX12_readsSlip_j93
  simp (disch := omega) only [l_0, l_1, l_2, l_3, l_4, l_5, l_6, l_7, l_8, l_9, l_10, l_12, l_13, l_24, l_31, l_32, l_40, l_41, l_42, l_44, l_45, l_48, l_49, l_50, l_57, l_59, l_60, l_65, l_88, l_89, l_97, l_98, l_99, l_100, l_105, l_108, l_109, l_114, l_118, l_120, l_122, l_144, l_255, l_269, l_279, l_339, l_400, l_600, l_999, l_1000, l_2373, l_2712, ι_lt, ι_le, ι_eq, ι_add, ι_mul, ι_sub, ι_div, ι_n, ι_m1, m1_ι, m1_lt, m1_le, lt_m1, le_m1, m1_lt_m1, m1_le_m1, m1_add1, neg_ι1, ι_addm, ι_addn, Bool.false_eq_true, Nat.not_lt_zero, Nat.add_zero, Nat.zero_add, Nat.mul_zero, Nat.reduceMul, Nat.reduceAdd, Nat.reduceSub, Nat.reduceLT, Nat.reduceLeDiff, Nat.reduceEqDiff, Nat.reduceDiv, Nat.reduceBEq, Nat.reduceBNe, false_or, or_false, true_or, or_true, and_true, true_and, false_and, and_false, not_false_eq_true, not_true_eq_false, if_true, if_false, if_pos, if_neg, Option.bind_some, ite_false, ite_true, eq_self, reduceIte, lm_0, lm_1, lm_2, lm_3, lm_4, lm_5, lm_6, lm_7, lm_8, lm_9, lm_10, lm_11, lm_12, lm_13, lm_14, lm_15, lm_16, lm_17, h0]
  have hB2 : BD B m (up (up τ 4 (5 + 3 * a) x) 4 (5 + 3 * a + 1) y) e := BD_c h (by rw [up_k _ _ _ _ _ (by omega), up_k _ _ _ _ _ (by omega)]) (by rw [up_k _ _ _ _ _ (by omega), up_k _ _ _ _ _ (by omega)]) (by rw [up_k _ _ _ _ _ (by omega), up_k _ _ _ _ _ (by omega)]) (by rw [up_k _ _ _ _ _ (by omega), up_k _ _ _ _ _ (by omega)])
  rw [bad_number hB2, Option.bind_some]
  refine ⟨_, rfl, ?_, fun k j hk => ?_⟩
  · rw [up_k _ _ _ _ _ (by omega), up_k _ _ _ _ _ (by omega)]; exact hB2.2.2.1
  · rw [up_g, if_neg (by omega), up_g, if_neg (by omega)]
    show up (up τ 4 (5 + 3 * a) x) 4 (5 + 3 * a + 1) y k j = _
    rw [up_g, if_neg (by omega), up_g, if_neg (by omega)]
theorem bad_j79 {B : Nat → Nat} {m e a : Nat} {τ : Mem} (h : BD B m τ e) (h0 : τ 4 0 = ι a) (ha : a < 12) (x y : Int32) : ∃ υ, fX12_readsSlip_j79 x y τ = some υ ∧ υ 0 15 = ι e ∧ frP τ υ := by
  unfold fX12_readsSlip_j79 fX12_tokenNow
  by_cases c : y = (-1 : Int32)
  · rw [if_pos c]
    obtain ⟨v, υ, a1, a2, a3⟩ := bad_look h
    rw [a1, Option.bind_some, Option.bind_some, r_wrong_no a2.2.2.1 a2.2.1, Option.bind_some]
    obtain ⟨ω, b1, b2, b3⟩ := bad_j93 a2 ((a3 4 0 (by omega)).trans h0) ha x y
    exact ⟨ω, b1, b2, frP_trans (frP_M (frL_M a3)) b3⟩
  · rw [if_neg c]
    exact bad_j93 h h0 ha x y
theorem bad_j52 {B : Nat → Nat} {m e a : Nat} {τ : Mem} (h : BD B m τ e) (h0 : τ 4 0 = ι a) (ha : a < 12) (x : Int32) : ∃ υ, fX12_readsSlip_j52 x τ = some υ ∧ υ 0 15 = ι e ∧ frP τ υ := by
  unfold fX12_readsSlip_j52
  rw [bad_takes h, Option.bind_some, if_pos rfl, bad_takes h, Option.bind_some, if_pos rfl]
  exact bad_j79 h h0 ha x _
theorem isW_10 (B : Nat → Nat) (m s : Nat) : isW B m 10 s = isW B m 0 s := rfl
theorem isW_11 (B : Nat → Nat) (m s : Nat) : isW B m 11 s = isW B m 1 s := rfl
theorem isW_12 (B : Nat → Nat) (m s : Nat) : isW B m 12 s = isW B m 2 s := rfl
theorem isW_13 (B : Nat → Nat) (m s : Nat) : isW B m 13 s = isW B m 3 s := rfl
theorem isW_14 (B : Nat → Nat) (m s : Nat) : isW B m 14 s = isW B m 4 s := rfl
theorem isW_15 (B : Nat → Nat) (m s : Nat) : isW B m 15 s = isW B m 5 s := rfl
theorem isW_16 (B : Nat → Nat) (m s : Nat) : isW B m 16 s = isW B m 6 s := rfl
theorem isW_17 (B : Nat → Nat) (m s : Nat) : isW B m 17 s = isW B m 7 s := rfl
theorem isW_18 (B : Nat → Nat) (m s : Nat) : isW B m 18 s = isW B m 8 s := rfl
theorem isW_19 (B : Nat → Nat) (m s : Nat) : isW B m 19 s = isW B m 9 s := rfl
theorem wl_ok : ∀ w, w < 20 → 1 ≤ wln w ∧ wln w ≤ 7 := by decide +kernel
