/-! PURE PART: statements of the setup text, labels and missing leaves -/
def sy (B : Nat → Nat) (m s : Nat) : Option Nat := if isW B m 6 s then some 0 else if isW B m 7 s then some 1 else if isW B m 8 s then some 2 else if isW B m 9 s then some 3 else none
theorem sy_lt {B : Nat → Nat} {m s i : Nat} (h : sy B m s = some i) : i < 4 := by
  unfold sy at h
  by_cases c : isW B m 6 s = true
  · rw [if_pos c] at h; cases h; omega
  · rw [if_neg c] at h
    by_cases c : isW B m 7 s = true
    · rw [if_pos c] at h; cases h; omega
    · rw [if_neg c] at h
      by_cases c : isW B m 8 s = true
      · rw [if_pos c] at h; cases h; omega
      · rw [if_neg c] at h
        by_cases c : isW B m 9 s = true
        · rw [if_pos c] at h; cases h; omega
        · rw [if_neg c] at h; cases h
theorem c_style {B : Nat → Nat} {m s : Nat} {σ : Mem} (hB : BC B m σ) (hT : CT B m σ s) : fX6_styleNamed 1 σ = some (oi (sy B m s)) := by
  unfold fX6_styleNamed sy
  rw [c_isWord hB hT (wl_ok 6 (by omega)).2, Option.bind_some, c_isWord hB hT (wl_ok 7 (by omega)).2, Option.bind_some, c_isWord hB hT (wl_ok 8 (by omega)).2, Option.bind_some, c_isWord hB hT (wl_ok 9 (by omega)).2, Option.bind_some]
  by_cases c : isW B m 6 s = true
  · rw [if_pos c, if_pos c, if_neg (by decide)]; rfl
  · rw [if_neg c, if_neg c, if_pos (show ι 0 = (0 : Int32) from rfl)]
    by_cases c : isW B m 7 s = true
    · rw [if_pos c, if_pos c, if_neg (by decide)]; rfl
    · rw [if_neg c, if_neg c, if_pos (show ι 0 = (0 : Int32) from rfl)]
      by_cases c : isW B m 8 s = true
      · rw [if_pos c, if_pos c, if_neg (by decide)]; rfl
      · rw [if_neg c, if_neg c, if_pos (show ι 0 = (0 : Int32) from rfl)]
        by_cases c : isW B m 9 s = true
        · rw [if_pos c, if_pos c, if_neg (by decide)]; rfl
        · rw [if_neg c, if_neg c, if_pos (show ι 0 = (0 : Int32) from rfl)]; rfl
def styT (w : Nat) (i : Int32) (g : Mem → Option (Int32 × Mem)) (τ : Mem) : Option (Int32 × Mem) := (fX12_takes w τ).bind fun v => if v.1 = 0 then g v.2 else some (i, v.2)
def styE (τ : Mem) : Option (Int32 × Mem) := (fX12_tokenNow τ).bind fun v61 => (fX12_wrongAt v61.1 v61.2).bind fun v64 => some ((-1 : Int32), v64)
theorem style_eq (τ : Mem) : fX12_readsStyle τ = styT 16 0 (styT 17 1 (styT 18 2 (styT 19 3 styE))) τ := by
  unfold fX12_readsStyle
  simp only [if_pos (show (-1 : Int32) = (-1 : Int32) from rfl), if_neg (show ¬ (3 : Int32) = (-1 : Int32) by decide), if_neg (show ¬ (2 : Int32) = (-1 : Int32) by decide), if_neg (show ¬ (1 : Int32) = (-1 : Int32) by decide), if_neg (show ¬ (0 : Int32) = (-1 : Int32) by decide)]
  rfl
theorem r_styT {B : Nat → Nat} {m p s w : Nat} {τ : Mem} (i : Int32) (g : Mem → Option (Int32 × Mem)) (h : RP B m τ p) (hs : Skp B m p = s) (hw : w < 20) : ∃ υ, styT w i g τ = (if isW B m w s then some (i, υ) else g υ) ∧ RP B m υ (if isW B m w s then Tk B m s else s) ∧ frL τ υ := by
  obtain ⟨υ, a1, a2, a3, a4⟩ := r_takes (w := w) h hs (wl_ok w hw).1 (wl_ok w hw).2
  refine ⟨υ, ?_, a2, a4⟩
  unfold styT
  rw [a1, Option.bind_some]
  by_cases c : isW B m w s = true
  · rw [if_pos c, if_pos c, if_neg (show ¬ ((ι 1, υ) : Int32 × Mem).1 = 0 from (by decide : ¬ ι 1 = (0 : Int32)))]
  · rw [if_neg c, if_neg c, if_pos (show ((ι 0, υ) : Int32 × Mem).1 = 0 from rfl)]
theorem frL_trans {τ υ ω : Mem} (h1 : frL τ υ) (h2 : frL υ ω) : frL τ ω := fun k j hk => (h2 k j hk).trans (h1 k j hk)
theorem r_style {B : Nat → Nat} {m p s : Nat} {τ : Mem} (h : RP B m τ p) (hs : Skp B m p = s) : (∀ i, sy B m s = some i → ∃ υ, fX12_readsStyle τ = some (ι i, υ) ∧ RP B m υ (Tk B m s) ∧ frL τ υ) ∧ (sy B m s = none → ∃ υ, fX12_readsStyle τ = some (μ, υ) ∧ BD B m υ s ∧ frM τ υ) := by
  have hm := h.1.1
  have s2 := (Skp_spec (B := B) h.2.1).2.1
  rw [hs] at s2
  have hss : Skp B m s = s := by rw [← hs]; exact Skp_idem h.2.1
  rw [style_eq]
  obtain ⟨υ1, a1, a2, a3⟩ := r_styT 0 (styT 17 1 (styT 18 2 (styT 19 3 styE))) h hs (w := 16) (by omega)
  rw [isW_16] at a1 a2
  rw [a1]
  unfold sy
  by_cases c : isW B m 6 s = true
  · rw [if_pos c] at a2
    simp only [if_pos c]
    refine ⟨fun i hi => ?_, fun z => by cases z⟩
    cases hi
    exact ⟨υ1, rfl, a2, a3⟩
  · rw [if_neg c] at a2
    simp only [if_neg c]
    obtain ⟨υ2, b1, b2, b3⟩ := r_styT 1 (styT 18 2 (styT 19 3 styE)) a2 hss (w := 17) (by omega)
    rw [isW_17] at b1 b2
    rw [b1]
    by_cases c : isW B m 7 s = true
    · rw [if_pos c] at b2
      simp only [if_pos c]
      refine ⟨fun i hi => ?_, fun z => by cases z⟩
      cases hi
      exact ⟨υ2, rfl, b2, frL_trans a3 b3⟩
    · rw [if_neg c] at b2
      simp only [if_neg c]
      obtain ⟨υ3, c1, c2, c3⟩ := r_styT 2 (styT 19 3 styE) b2 hss (w := 18) (by omega)
      rw [isW_18] at c1 c2
      rw [c1]
      by_cases c : isW B m 8 s = true
      · rw [if_pos c] at c2
        simp only [if_pos c]
        refine ⟨fun i hi => ?_, fun z => by cases z⟩
        cases hi
        exact ⟨υ3, rfl, c2, frL_trans a3 (frL_trans b3 c3)⟩
      · rw [if_neg c] at c2
        simp only [if_neg c]
        obtain ⟨υ4, d1, d2, d3⟩ := r_styT 3 styE c2 hss (w := 19) (by omega)
        rw [isW_19] at d1 d2
        rw [d1]
        have fr : frL τ υ4 := frL_trans a3 (frL_trans b3 (frL_trans c3 d3))
        by_cases c : isW B m 9 s = true
        · rw [if_pos c] at d2
          simp only [if_pos c]
          refine ⟨fun i hi => ?_, fun z => by cases z⟩
          cases hi
          exact ⟨υ4, rfl, d2, fr⟩
        · rw [if_neg c] at d2
          simp only [if_neg c]
          refine ⟨fun i hi => (by cases hi), fun _ => ?_⟩
          obtain ⟨υ5, e1, e2, e3, e4⟩ := r_look d2.1 d2.2.1 d2.2.2.1
          rw [hss] at e1 e2 e3
          have k15 : υ5 0 15 = μ := (e4 0 15 (by omega)).trans d2.2.2.2
          unfold styE fX12_tokenNow
          rw [e1, Option.bind_some, Option.bind_some, r_wrong k15, Option.bind_some]
          refine ⟨_, rfl, ⟨BR_c (frM_BR (frL_M e4) d2.1) (up_j _ _ _ _ _ (by omega)) (up_k _ _ _ _ _ (by omega)), by omega, ?_, s, s2, ?_⟩, fun k j hk => ?_⟩
          · rw [up_e]; exact e3
          · rw [up_j _ _ _ _ _ (by omega)]; exact e2
          · rw [up_g, if_neg (by omega)]
            show υ5 k j = τ k j
            rw [e4 k j (by omega)]; exact fr k j (by omega)
theorem bad_style {B : Nat → Nat} {m e : Nat} {τ : Mem} (h : BD B m τ e) : ∃ υ, fX12_readsStyle τ = some (μ, υ) ∧ BD B m υ e ∧ frL τ υ := by
  have st : ∀ w i g, styT w i g τ = g τ := fun w i g => by
    unfold styT; rw [bad_takes h, Option.bind_some]; exact if_pos rfl
  rw [style_eq, st, st, st, st]
  obtain ⟨v, υ, a1, a2, a3⟩ := bad_look h
  unfold styE fX12_tokenNow
  rw [a1, Option.bind_some, Option.bind_some, r_wrong_no a2.2.2.1 a2.2.1, Option.bind_some]
  exact ⟨υ, rfl, a2, a3⟩
def lT3 (b : Nat) (v : Int32 × Mem) : Option Mem := (fX12_number (ι 1) (ι 999) (up v.2 4 (41 + 4 * b + 2) v.1)).bind fun v82 => some (up (up v82.2 4 (41 + 4 * b + 3) v82.1) 4 1 ((up v82.2 4 (41 + 4 * b + 3) v82.1) 4 1 + ι 1))
def lT2 (b : Nat) (v : Int32 × Mem) : Option Mem := (fX12_readsStyle (up v.2 4 (41 + 4 * b + 1) v.1)).bind (lT3 b)
def lT1 (b : Nat) (v : Int32 × Mem) : Option Mem := (fX12_leafRead v.1 (up v.2 4 (41 + 4 * b) v.1)).bind (lT2 b)
theorem label_eq {τ : Mem} {b : Nat} (h : τ 4 1 = ι b) (hb : b < 12) (x : Int32) : fX12_readsLabel x τ = (fX12_leafRead (ι 0) τ).bind (lT1 b) := by
  unfold fX12_readsLabel
  simp (disch := omega) only [l_0, l_1, l_2, l_3, l_4, l_5, l_6, l_7, l_8, l_9, l_10, l_12, l_13, l_24, l_31, l_32, l_40, l_41, l_42, l_44, l_45, l_48, l_49, l_50, l_57, l_59, l_60, l_65, l_88, l_89, l_97, l_98, l_99, l_100, l_105, l_108, l_109, l_114, l_118, l_120, l_122, l_144, l_255, l_269, l_279, l_339, l_400, l_600, l_999, l_1000, l_2373, l_2712, ι_lt, ι_le, ι_eq, ι_add, ι_mul, ι_sub, ι_div, ι_n, ι_m1, m1_ι, m1_lt, m1_le, lt_m1, le_m1, m1_lt_m1, m1_le_m1, m1_add1, neg_ι1, ι_addm, ι_addn, Bool.false_eq_true, Nat.not_lt_zero, Nat.add_zero, Nat.zero_add, Nat.mul_zero, Nat.reduceMul, Nat.reduceAdd, Nat.reduceSub, Nat.reduceLT, Nat.reduceLeDiff, Nat.reduceEqDiff, Nat.reduceDiv, Nat.reduceBEq, Nat.reduceBNe, false_or, or_false, true_or, or_true, and_true, true_and, false_and, and_false, not_false_eq_true, not_true_eq_false, if_true, if_false, if_pos, if_neg, Option.bind_some, ite_false, ite_true, eq_self, reduceIte, lm_0, lm_1, lm_2, lm_3, lm_4, lm_5, lm_6, lm_7, lm_8, lm_9, lm_10, lm_11, lm_12, lm_13, lm_14, lm_15, lm_16, lm_17, h, up_e]
  rfl
theorem leaf_bad {B : Nat → Nat} {m e k n : Nat} {τ : Mem} (h : BD B m τ e) (hQ : QP (τ 2) k n) (h4 : τ 0 4 = ι k) (x : Int32) : fX12_leafRead x τ = some (x, τ) := by
  unfold fX12_leafRead
  rw [r_leavesRead hQ h4, Option.bind_some, bad_number h, Option.bind_some]
theorem BD_4 {B : Nat → Nat} {m e j : Nat} {τ : Mem} {x : Int32} (h : BD B m τ e) : BD B m (up τ 4 j x) e := BD_c h (up_k _ _ _ _ _ (by omega)) (by rw [up_k _ _ _ _ _ (by omega)]) (by rw [up_k _ _ _ _ _ (by omega)]) (by rw [up_k _ _ _ _ _ (by omega)])
theorem frP_4 (τ : Mem) (j : Nat) (x : Int32) : frP τ (up τ 4 j x) := fun k i hk => by rw [up_g, if_neg (by omega)]
theorem bad_T3 {B : Nat → Nat} {m e b : Nat} {v : Int32 × Mem} (h : BD B m v.2 e) : ∃ υ, lT3 b v = some υ ∧ υ 0 15 = ι e ∧ frP v.2 υ := by
  unfold lT3
  rw [bad_number (BD_4 h), Option.bind_some]
  refine ⟨_, rfl, ?_, frP_trans (frP_4 _ _ _) (frP_trans (frP_4 _ _ _) (frP_4 _ _ _))⟩
  rw [up_k _ _ _ _ _ (by omega), up_k _ _ _ _ _ (by omega)]
  show up v.2 4 (41 + 4 * b + 2) v.1 0 15 = _
  rw [up_k _ _ _ _ _ (by omega)]; exact h.2.2.1
theorem bad_T2 {B : Nat → Nat} {m e b : Nat} {v : Int32 × Mem} (h : BD B m v.2 e) : ∃ υ, lT2 b v = some υ ∧ υ 0 15 = ι e ∧ frP v.2 υ := by
  unfold lT2
  obtain ⟨υ, a1, a2, a3⟩ := bad_style (BD_4 (j := 41 + 4 * b + 1) (x := v.1) h)
  rw [a1, Option.bind_some]
  obtain ⟨ω, b1, b2, b3⟩ := bad_T3 (b := b) (v := (μ, υ)) a2
  exact ⟨ω, b1, b2, frP_trans (frP_4 _ _ _) (frP_trans (frP_M (frL_M a3)) b3)⟩
theorem bad_T1 {B : Nat → Nat} {m e b k n : Nat} {v : Int32 × Mem} (h : BD B m v.2 e) (hQ : QP (v.2 2) k n) (h4 : v.2 0 4 = ι k) : ∃ υ, lT1 b v = some υ ∧ υ 0 15 = ι e ∧ frP v.2 υ := by
  unfold lT1
  rw [leaf_bad (BD_4 h) (k := k) (n := n) (by rw [up_k _ _ _ _ _ (by omega)]; exact hQ) (by rw [up_k _ _ _ _ _ (by omega)]; exact h4), Option.bind_some]
  obtain ⟨ω, b1, b2, b3⟩ := bad_T2 (b := b) (v := (v.1, up v.2 4 (41 + 4 * b) v.1)) (BD_4 h)
  exact ⟨ω, b1, b2, frP_trans (frP_4 _ _ _) b3⟩
theorem RP_4 {B : Nat → Nat} {m p j : Nat} {τ : Mem} {x : Int32} (h : RP B m τ p) : RP B m (up τ 4 j x) p := ⟨BR_c h.1 (by rw [up_k _ _ _ _ _ (by omega)]) (up_k _ _ _ _ _ (by omega)), h.2.1, by rw [up_k _ _ _ _ _ (by omega)]; exact h.2.2.1, by rw [up_k _ _ _ _ _ (by omega)]; exact h.2.2.2⟩
theorem c_start {σ : Mem} {v : Nat} (hv : v < 10000) : fX11_isStart (ι v) σ = some (if 1 ≤ v ∧ v ≤ 999 then ι 1 else ι 0) := by
  unfold fX11_isStart
  rw [l_1, l_999, ite_lt (by omega) (by omega), ite_lt (by omega) (by omega)]
  repeat' split
  all_goals first | rfl | omega
theorem c_startN {B : Nat → Nat} {m s : Nat} {σ : Mem} (hs : s ≤ m) (hno : ∀ v, nv B m s = some v → ¬ (1 ≤ v ∧ v ≤ 999)) : fX11_isStart (oi (nv B m s)) σ = some (ι 0) := by
  cases hv : nv B m s with
  | none => show fX11_isStart μ σ = _; unfold fX11_isStart; rw [if_pos (by decide)]; rfl
  | some v => show fX11_isStart (ι v) σ = _; rw [c_start (nv_lt hs hv), if_neg (hno v hv)]
theorem c_hlN {B : Nat → Nat} {m s k n a : Nat} {q F : Nat → Int32} {σ : Mem} (hs : s ≤ m) (hn : n ≤ 60) (hV : VR σ 3 q k n a F) (hno : ∀ v, nv B m s = some v → ¬ v < n) : fX10_hasLeaf 3 (oi (nv B m s)) σ = some (ι 0) := by
  cases hv : nv B m s with
  | none => exact c_hasLeaf_neg (by decide)
  | some v =>
    have := nv_lt hs hv
    show fX10_hasLeaf 3 (ι v) σ = _
    rw [c_hasLeaf hn hV (by omega), if_neg (hno v hv)]
theorem label_sim {B : Nat → Nat} {m s k n a b : Nat} {σ τ : Mem} (hB : BC B m σ) (hT : CT B m σ s) (hD : DR σ τ k n a b) (hk1 : 1 ≤ k) (hP : RP B m τ (Tk B m s)) : Out B m σ τ s (fX6_readLabel 1 σ) (fX12_readsLabel (ι s) τ) := by
  have hm := hB.1
  have hs := hT.1
  obtain ⟨t1, t2, t3, t4⟩ := Tk_spec (B := B) hs
  obtain ⟨u1, u2, u3, u4⟩ := Skp_spec (B := B) t2
  have hQ := hD.1
  have hn := hQ.2.2.2
  have hn1 := QP_pos hQ hk1
  have hF := hD.2.2.1
  have ha := hF.2.1
  have hb := hF.2.2.2.2.1
  have h41 : τ 4 1 = ι b := hF.2.2.2.1
  have hV := hD.2.2.2.1
  have hL := hD.2.2.2.2.1
  have htr : fX1_takesRange 14 σ = some (if b < 12 then ι 1 else ι 0) := by
    unfold fX1_takesRange
    rw [hL.2.1, l_12, ite_le (by omega) (by omega)]
    by_cases c : 12 ≤ b
    · rw [if_pos c, if_neg (by omega)]; rfl
    · rw [if_neg c, if_pos (by omega)]; rfl
  by_cases hb12 : b = 12
  · unfold fX6_readLabel fX12_readsLabel
    rw [show (1 + 1) + 12 = 14 from rfl, htr, Option.bind_some, if_neg (show ¬ b < 12 by omega), if_pos (show ι 0 = (0 : Int32) from rfl), if_neg (show ¬ ((1 : Int32) < 0 ∨ lm 4 ≤ (1 : Int32).toNatClampNeg) by decide), if_pos (show τ 4 (1 : Int32).toNatClampNeg = (12 : Int32) from h41.trans (by rw [hb12]; rfl)), r_wrong hP.2.2.2, Option.bind_some]
    exact out_no (fun _ _ => rfl) (fun k j hk => by rw [up_g, if_neg (by omega)]) (by omega) hT.2.2.1 (up_e _ _ _ _)
  · have hb' : b < 12 := by omega
    rw [label_eq h41 hb']
    unfold fX6_readLabel
    rw [show (1 + 1) + 12 = 14 from rfl, htr, Option.bind_some, if_pos hb', if_neg (by decide), show (1 + 1) + 1 = 3 from rfl]
    obtain ⟨ρ1, a1, a2, a3, a4⟩ := c_nextT hB hT
    obtain ⟨g1, g2⟩ := r_leafRead (x := 0) hP rfl (by omega) hQ hD.2.1 hn1
    rw [a1, Option.bind_some, a2.2.2.2.2]
    have V1 : VR ρ1 3 (τ 2) k n a (τ 4) := VR_c hn ha hV (fun j hj => a4 _ (by omega)) (fun _ _ => rfl)
    have f1 : frQ σ ρ1 := frQ_1 a4
    generalize hs1 : Skp B m (Tk B m s) = s1 at *
    by_cases hok : ∃ v, nv B m s1 = some v ∧ v < n
    · obtain ⟨v, hv, hvn⟩ := hok
      obtain ⟨υ, b1, b2, b3, b4⟩ := g1 v hv (by omega) hvn
      rw [b1, Option.bind_some, hv]
      show Out B m σ τ s ((fX10_hasLeaf 3 (ι v) ρ1).bind _) _
      rw [c_hasLeaf hn V1 (by omega), Option.bind_some, if_pos hvn, if_neg (by decide)]
      obtain ⟨tt1, tt2, tt3, tt4⟩ := Tk_spec (B := B) u2
      obtain ⟨uu1, uu2, uu3, uu4⟩ := Skp_spec (B := B) tt2
      obtain ⟨ρ2, c1, c2, c3, c4⟩ := c_nextT a3 a2
      have V2 : VR ρ2 3 (τ 2) k n a (τ 4) := VR_c hn ha V1 (fun j hj => c4 _ (by omega)) (fun _ _ => rfl)
      have f2 : frQ σ ρ2 := frQ_trans f1 (frQ_1 c4)
      have e2 : υ 2 = τ 2 := funext fun j => b4 2 j (by omega)
      have e04 : υ 0 4 = ι k := (b4 0 4 (by omega)).trans hD.2.1
      unfold lT1
      show Out B m σ τ s _ ((fX12_leafRead (ι v) (up υ 4 (41 + 4 * b) (ι v))).bind (lT2 b))
      have P2 : RP B m (up υ 4 (41 + 4 * b) (ι v)) (Tk B m s1) := RP_4 b2
      obtain ⟨j1, j2⟩ := r_leafRead (x := v) P2 rfl (by omega) (k := k) (n := n) (by rw [up_k _ _ _ _ _ (by omega), e2]; exact hQ) (by rw [up_k _ _ _ _ _ (by omega)]; exact e04) hn1
      rw [c1, Option.bind_some, c2.2.2.2.2]
      have fr1 : frP τ (up υ 4 (41 + 4 * b) (ι v)) := frP_trans (frP_M (frL_M b4)) (frP_4 _ _ _)
      generalize hs2 : Skp B m (Tk B m s1) = s2 at *
      by_cases hok2 : ∃ w, nv B m s2 = some w ∧ v ≤ w ∧ w < n
      · obtain ⟨w, hw, hvw, hwn⟩ := hok2
        obtain ⟨υ2, d1, d2, d3, d4⟩ := j1 w hw hvw hwn
        have vl := nv_lt u2 hv
        have wlt := nv_lt uu2 hw
        rw [d1, Option.bind_some, hw]
        show Out B m σ τ s ((fX10_hasLeaf 3 (ι w) ρ2).bind _) (lT2 b (ι w, υ2))
        rw [c_hasLeaf hn V2 (by omega), Option.bind_some, if_pos hwn, if_neg (by decide), if_pos (show oi (some v) ≤ oi (some w) from (by rw [show oi (some v) = ι v from rfl, show oi (some w) = ι w from rfl, ι_le (by omega) (by omega)]; exact hvw))]
        obtain ⟨x1, x2, x3, x4⟩ := Tk_spec (B := B) uu2
        obtain ⟨y1, y2, y3, y4⟩ := Skp_spec (B := B) x2
        obtain ⟨ρ3, e1, e3, e5, e6⟩ := c_nextT c3 c2
        have f3 : frQ σ ρ3 := frQ_trans f2 (frQ_1 e6)
        unfold lT2
        show Out B m σ τ s _ ((fX12_readsStyle (up υ2 4 (41 + 4 * b + 1) (ι w))).bind (lT3 b))
        have P3 : RP B m (up υ2 4 (41 + 4 * b + 1) (ι w)) (Tk B m s2) := RP_4 d2
        have fr2 : frP τ (up υ2 4 (41 + 4 * b + 1) (ι w)) := frP_trans fr1 (frP_trans (frP_M (frL_M d4)) (frP_4 _ _ _))
        obtain ⟨k1, k2⟩ := r_style P3 rfl
        rw [e1, Option.bind_some, c_style e5 e3, Option.bind_some]
        generalize hs3 : Skp B m (Tk B m s2) = s3 at *
        cases hsy : sy B m s3 with
        | none =>
          obtain ⟨υ3, q1, q2, q3⟩ := k2 hsy
          rw [if_pos (show oi none = (-1 : Int32) from rfl), q1, Option.bind_some]
          obtain ⟨ω, r1, r2, r3⟩ := bad_T3 (b := b) (v := (μ, υ3)) q2
          rw [r1]
          exact out_no (s' := s3) f3 (frP_trans fr2 (frP_trans (frP_M q3) r3)) (by omega) e3.2.2.1 r2
        | some i =>
          have hi := sy_lt hsy
          obtain ⟨υ3, q1, q2, q3⟩ := k1 i hsy
          rw [if_neg (oi_pos rfl (by omega)), q1, Option.bind_some]
          obtain ⟨x1', x2', x3', x4'⟩ := Tk_spec (B := B) y2
          obtain ⟨y1', y2', y3', y4'⟩ := Skp_spec (B := B) x2'
          obtain ⟨ρ4, l1, l2, l3, l4⟩ := c_nextT e5 e3
          have f4 : frQ σ ρ4 := frQ_trans f3 (frQ_1 l4)
          unfold lT3
          show Out B m σ τ s _ ((fX12_number (ι 1) (ι 999) (up υ3 4 (41 + 4 * b + 2) (ι i))).bind _)
          have P4 : RP B m (up υ3 4 (41 + 4 * b + 2) (ι i)) (Tk B m s3) := RP_4 q2
          have fr3 : frP τ (up υ3 4 (41 + 4 * b + 2) (ι i)) := frP_trans fr2 (frP_trans (frP_M (frL_M q3)) (frP_4 _ _ _))
          obtain ⟨z1, z2⟩ := r_num (z := ι 999) (x := 1) P4 rfl (by omega)
          rw [l1, Option.bind_some, l2.2.2.2.2]
          generalize hs4 : Skp B m (Tk B m s3) = s4 at *
          by_cases hok4 : ∃ t, nv B m s4 = some t ∧ 1 ≤ t ∧ t ≤ 999
          · obtain ⟨t, ht, ht1, ht2⟩ := hok4
            have tlt := nv_lt y2' ht
            obtain ⟨υ4, o1, o2, o3, o4⟩ := z1 t ht (by rw [ι_le (by omega) (by omega)]; exact ht1) (by rw [ι_le (by omega) (by omega)]; exact ht2)
            rw [o1, Option.bind_some, ht]
            show Out B m σ τ s ((fX11_isStart (ι t) ρ4).bind _) (some (up (up υ4 4 (41 + 4 * b + 3) (ι t)) 4 1 (up υ4 4 (41 + 4 * b + 3) (ι t) 4 1 + ι 1)))
            rw [c_start tlt, Option.bind_some, if_pos (show 1 ≤ t ∧ t ≤ 999 from ⟨ht1, ht2⟩), if_neg (by decide)]
            have E : ∀ j, υ4 4 j = if j = 41 + 4 * b + 2 then ι i else if j = 41 + 4 * b + 1 then ι w else if j = 41 + 4 * b then ι v else τ 4 j := fun j => by
              rw [o4 4 j (by omega)]
              by_cases c2 : j = 41 + 4 * b + 2
              · rw [if_pos c2, c2, up_e]
              · rw [if_neg c2, up_j _ _ _ _ _ c2, q3 4 j (by omega)]
                by_cases c1 : j = 41 + 4 * b + 1
                · rw [if_pos c1, c1, up_e]
                · rw [if_neg c1, up_j _ _ _ _ _ c1, d4 4 j (by omega)]
                  by_cases c0 : j = 41 + 4 * b
                  · rw [if_pos c0, c0, up_e]
                  · rw [if_neg c0, up_j _ _ _ _ _ c0, b4 4 j (by omega)]
            have fr4 : frP τ υ4 := frP_trans fr3 (frP_M (frL_M o4))
            have E2 : υ4 2 = τ 2 := funext fun j => by
              rw [o4 2 j (by omega), up_k _ _ _ _ _ (by omega), q3 2 j (by omega), up_k _ _ _ _ _ (by omega), d4 2 j (by omega), up_k _ _ _ _ _ (by omega), b4 2 j (by omega)]
            have E04 : υ4 0 4 = τ 0 4 := by
              rw [o4 0 4 (by omega), up_k _ _ _ _ _ (by omega), q3 0 4 (by omega), up_k _ _ _ _ _ (by omega), d4 0 4 (by omega), up_k _ _ _ _ _ (by omega), b4 0 4 (by omega)]
            have E1 : up υ4 4 (41 + 4 * b + 3) (ι t) 4 1 = ι b := by
              rw [up_j _ _ _ _ _ (by omega), E 1, if_neg (by omega), if_neg (by omega), if_neg (by omega)]; exact h41
            rw [E1, ι_add]
            have hD4 : DR ρ4 τ k n a b := DR_c hD (fun j h1 h2 => by rw [l4 j (by omega), e6 j (by omega), c4 j (by omega), a4 j (by omega)]) rfl rfl rfl
            obtain ⟨ρ5, m1, m2, m3⟩ := range_DR (υ := up (up υ4 4 (41 + 4 * b + 3) (ι t)) 4 1 (ι (b + 1))) hD4 hb' hvw hwn hi ht1 ht2 (by rw [up_k _ _ _ _ _ (by omega), up_k _ _ _ _ _ (by omega)]; exact E2) (by rw [up_k _ _ _ _ _ (by omega), up_k _ _ _ _ _ (by omega)]; exact E04) (by rw [up_j _ _ _ _ _ (by omega), up_j _ _ _ _ _ (by omega), E, if_neg (by omega), if_neg (by omega), if_pos rfl]) (by rw [up_j _ _ _ _ _ (by omega), up_j _ _ _ _ _ (by omega), E, if_neg (by omega), if_pos rfl]) (by rw [up_j _ _ _ _ _ (by omega), up_j _ _ _ _ _ (by omega), E, if_pos rfl]) (by rw [up_j _ _ _ _ _ (by omega), up_e]) (up_e _ _ _ _) (fun l g1 g2 => by rw [up_j _ _ _ _ _ g1, up_j _ _ _ _ _ (by omega), E, if_neg (by omega), if_neg (by omega), if_neg (by omega)])
            have m1 : fX1_add 14 (oi (some v)) (oi (some w)) (oi (some i)) (oi (some t)) ρ4 = some ρ5 := m1
            rw [m1, Option.bind_some]
            obtain ⟨ρ6, n1, n2, n3, n4⟩ := c_nextT (frQ_BC (frQ_3 m3) l3) (CT_c l2 (m3 1 (by omega)))
            rw [n1, Option.bind_some]
            have hw' := Tk_spec (B := B) y2'
            have hx' := Skp_spec (B := B) hw'.2.1
            refine out_yes (frQ_trans f4 (frQ_trans (frQ_3 m3) (frQ_1 n4))) (frP_trans fr4 (frP_trans (frP_4 _ _ _) (frP_4 _ _ _))) hk1 (DR_c m2 (fun j h1 h2 => n4 j (by omega)) rfl rfl rfl) n2 (RP_4 (RP_4 o2)) rfl (by omega)
          · have hno4 : ∀ t, nv B m s4 = some t → ¬ (1 ≤ t ∧ t ≤ 999) := fun t ht z => hok4 ⟨t, ht, z.1, z.2⟩
            obtain ⟨υ4, p', o1, o2, o3, o4, o5⟩ := z2 (fun t ht z => by
              have tlt := nv_lt y2' ht
              rw [ι_le (by omega) (by omega), ι_le (by omega) (by omega)] at z
              exact hno4 t ht z)
            rw [o1, Option.bind_some, c_startN y2' hno4, Option.bind_some, if_pos (show ι 0 = (0 : Int32) from rfl)]
            refine out_no (s' := s4) f4 (frP_trans fr3 (frP_trans (frP_M o5) (frP_trans (frP_4 _ _ _) (frP_4 _ _ _)))) (by omega) l2.2.2.1 ?_
            rw [up_k _ _ _ _ _ (by omega), up_k _ _ _ _ _ (by omega)]; exact o2
      · have hno2 : ∀ w, nv B m s2 = some w → ¬ (v ≤ w ∧ w < n) := fun w hw z => hok2 ⟨w, hw, z.1, z.2⟩
        obtain ⟨υ2, d1, d2, d3⟩ := j2 hno2
        rw [d1, Option.bind_some]
        obtain ⟨ω, q1, q2, q3⟩ := bad_T2 (b := b) (v := (ι v, υ2)) d2
        rw [q1]
        have hend := out_no (B := B) (m := m) (σ := σ) (τ := τ) (s := s) (s' := s2) f2 (frP_trans fr1 (frP_trans (frP_M d3) q3)) (by omega) c2.2.2.1 q2
        cases hw : nv B m s2 with
        | none =>
          show Out B m σ τ s ((fX10_hasLeaf 3 μ ρ2).bind _) _
          rw [c_hasLeaf_neg (by decide), Option.bind_some, if_pos (show ι 0 = (0 : Int32) from rfl)]
          exact hend
        | some w =>
          have wlt := nv_lt uu2 hw
          have vl := nv_lt u2 hv
          show Out B m σ τ s ((fX10_hasLeaf 3 (ι w) ρ2).bind _) _
          rw [c_hasLeaf hn V2 (by omega), Option.bind_some]
          by_cases hwn : w < n
          · rw [if_pos hwn, if_neg (by decide), if_neg (show ¬ oi (some v) ≤ oi (some w) from (by rw [show oi (some v) = ι v from rfl, show oi (some w) = ι w from rfl, ι_le (by omega) (by omega)]; exact fun z => hno2 w hw ⟨z, hwn⟩))]
            exact hend
          · rw [if_neg hwn, if_pos (show ι 0 = (0 : Int32) from rfl)]
            exact hend
    · have hno : ∀ v, nv B m s1 = some v → ¬ (0 ≤ v ∧ v < n) := fun v hv z => hok ⟨v, hv, z.2⟩
      obtain ⟨υ, b1, b2, b3⟩ := g2 hno
      rw [c_hlN u2 hn V1 (fun v hv z => hok ⟨v, hv, z⟩), b1, Option.bind_some, Option.bind_some, if_pos (show ι 0 = (0 : Int32) from rfl)]
      obtain ⟨ω, q1, q2, q3⟩ := bad_T1 (b := b) (v := (ι 0, υ)) b2 (k := k) (n := n) (by show QP (υ 2) k n; rw [show υ 2 = τ 2 from funext fun j => b3 2 j (by omega)]; exact hQ) ((b3 0 4 (by omega)).trans hD.2.1)
      rw [q1]
      exact out_no (s' := s1) f1 (frP_trans (frP_M b3) q3) (by omega) a2.2.2.1 q2
