/-! PURE PART: statements of the setup text, labels and missing leaves -/
def sy (B : Nat → Nat) (m s : Nat) : Option Nat := if isW B m 6 s then some 0 else if isW B m 7 s then some 1 else if isW B m 8 s then some 2 else if isW B m 9 s then some 3 else none
theorem sy_lt {B : Nat → Nat} {m s i : Nat} (h : sy B m s = some i) : i < 4 := by
  unfold sy at h
  by_cases c : isW B m 6 s = true
  · rw [if_pos c] at h; cases h; omega
  · rw [if_neg c] at h
    by_cases c : isW B m 7 s = true
    · rw [if_pos c] at h; cases h; omega
    · rw [if_neg c] at h
      by_cases c : isW B m 8 s = true
      · rw [if_pos c] at h; cases h; omega
      · rw [if_neg c] at h
        by_cases c : isW B m 9 s = true
        · rw [if_pos c] at h; cases h; omega
        · rw [if_neg c] at h; cases h
theorem c_style {B : Nat → Nat} {m s : Nat} {σ : Mem} (hB : BC B m σ) (hT : CT B m σ s) : fX6_styleNamed 1 σ = some (oi (sy B m s)) := by
  unfold fX6_styleNamed sy
  rw [c_isWord hB hT (wl_ok 6 (by omega)).2, Option.bind_some, c_isWord hB hT (wl_ok 7 (by omega)).2, Option.bind_some, c_isWord hB hT (wl_ok 8 (by omega)).2, Option.bind_some, c_isWord hB hT (wl_ok 9 (by omega)).2, Option.bind_some]
  by_cases c : isW B m 6 s = true
  · rw [if_pos c, if_pos c, if_neg (by decide)]; rfl
  · rw [if_neg c, if_neg c, if_pos (show ι 0 = (0 : Int32) from rfl)]
    by_cases c : isW B m 7 s = true
    · rw [if_pos c, if_pos c, if_neg (by decide)]; rfl
    · rw [if_neg c, if_neg c, if_pos (show ι 0 = (0 : Int32) from rfl)]
      by_cases c : isW B m 8 s = true
      · rw [if_pos c, if_pos c, if_neg (by decide)]; rfl
      · rw [if_neg c, if_neg c, if_pos (show ι 0 = (0 : Int32) from rfl)]
        by_cases c : isW B m 9 s = true
        · rw [if_pos c, if_pos c, if_neg (by decide)]; rfl
        · rw [if_neg c, if_neg c, if_pos (show ι 0 = (0 : Int32) from rfl)]; rfl
def styT (w : Nat) (i : Int32) (g : Mem → Option (Int32 × Mem)) (τ : Mem) : Option (Int32 × Mem) := (fX12_takes w τ).bind fun v => if v.1 = 0 then g v.2 else some (i, v.2)
def styE (τ : Mem) : Option (Int32 × Mem) := (fX12_tokenNow τ).bind fun v61 => (fX12_wrongAt v61.1 v61.2).bind fun v64 => some ((-1 : Int32), v64)
theorem style_eq (τ : Mem) : fX12_readsStyle τ = styT 16 0 (styT 17 1 (styT 18 2 (styT 19 3 styE))) τ := by
  unfold fX12_readsStyle
  simp only [if_pos (show (-1 : Int32) = (-1 : Int32) from rfl), if_neg (show ¬ (3 : Int32) = (-1 : Int32) by decide), if_neg (show ¬ (2 : Int32) = (-1 : Int32) by decide), if_neg (show ¬ (1 : Int32) = (-1 : Int32) by decide), if_neg (show ¬ (0 : Int32) = (-1 : Int32) by decide)]
  rfl
theorem r_styT {B : Nat → Nat} {m p s w : Nat} {τ : Mem} (i : Int32) (g : Mem → Option (Int32 × Mem)) (h : RP B m τ p) (hs : Skp B m p = s) (hw : w < 20) : ∃ υ, styT w i g τ = (if isW B m w s then some (i, υ) else g υ) ∧ RP B m υ (if isW B m w s then Tk B m s else s) ∧ frL τ υ := by
  obtain ⟨υ, a1, a2, a3, a4⟩ := r_takes (w := w) h hs (wl_ok w hw).1 (wl_ok w hw).2
  refine ⟨υ, ?_, a2, a4⟩
  unfold styT
  rw [a1, Option.bind_some]
  by_cases c : isW B m w s = true
  · rw [if_pos c, if_pos c, if_neg (show ¬ ((ι 1, υ) : Int32 × Mem).1 = 0 from (by decide : ¬ ι 1 = (0 : Int32)))]
  · rw [if_neg c, if_neg c, if_pos (show ((ι 0, υ) : Int32 × Mem).1 = 0 from rfl)]
theorem frL_trans {τ υ ω : Mem} (h1 : frL τ υ) (h2 : frL υ ω) : frL τ ω := fun k j hk => (h2 k j hk).trans (h1 k j hk)
theorem r_style {B : Nat → Nat} {m p s : Nat} {τ : Mem} (h : RP B m τ p) (hs : Skp B m p = s) : (∀ i, sy B m s = some i → ∃ υ, fX12_readsStyle τ = some (ι i, υ) ∧ RP B m υ (Tk B m s) ∧ frL τ υ) ∧ (sy B m s = none → ∃ υ, fX12_readsStyle τ = some (μ, υ) ∧ BD B m υ s ∧ frM τ υ) := by
  have hm := h.1.1
  have s2 := (Skp_spec (B := B) h.2.1).2.1
  rw [hs] at s2
  have hss : Skp B m s = s := by rw [← hs]; exact Skp_idem h.2.1
  rw [style_eq]
  obtain ⟨υ1, a1, a2, a3⟩ := r_styT 0 (styT 17 1 (styT 18 2 (styT 19 3 styE))) h hs (w := 16) (by omega)
  rw [isW_16] at a1 a2
  rw [a1]
  unfold sy
  by_cases c : isW B m 6 s = true
  · rw [if_pos c] at a2
    simp only [if_pos c]
    refine ⟨fun i hi => ?_, fun z => by cases z⟩
    cases hi
    exact ⟨υ1, rfl, a2, a3⟩
  · rw [if_neg c] at a2
    simp only [if_neg c]
    obtain ⟨υ2, b1, b2, b3⟩ := r_styT 1 (styT 18 2 (styT 19 3 styE)) a2 hss (w := 17) (by omega)
    rw [isW_17] at b1 b2
    rw [b1]
    by_cases c : isW B m 7 s = true
    · rw [if_pos c] at b2
      simp only [if_pos c]
      refine ⟨fun i hi => ?_, fun z => by cases z⟩
      cases hi
      exact ⟨υ2, rfl, b2, frL_trans a3 b3⟩
    · rw [if_neg c] at b2
      simp only [if_neg c]
      obtain ⟨υ3, c1, c2, c3⟩ := r_styT 2 (styT 19 3 styE) b2 hss (w := 18) (by omega)
      rw [isW_18] at c1 c2
      rw [c1]
      by_cases c : isW B m 8 s = true
      · rw [if_pos c] at c2
        simp only [if_pos c]
        refine ⟨fun i hi => ?_, fun z => by cases z⟩
        cases hi
        exact ⟨υ3, rfl, c2, frL_trans a3 (frL_trans b3 c3)⟩
      · rw [if_neg c] at c2
        simp only [if_neg c]
        obtain ⟨υ4, d1, d2, d3⟩ := r_styT 3 styE c2 hss (w := 19) (by omega)
        rw [isW_19] at d1 d2
        rw [d1]
        have fr : frL τ υ4 := frL_trans a3 (frL_trans b3 (frL_trans c3 d3))
        by_cases c : isW B m 9 s = true
        · rw [if_pos c] at d2
          simp only [if_pos c]
          refine ⟨fun i hi => ?_, fun z => by cases z⟩
          cases hi
          exact ⟨υ4, rfl, d2, fr⟩
        · rw [if_neg c] at d2
          simp only [if_neg c]
          refine ⟨fun i hi => (by cases hi), fun _ => ?_⟩
          obtain ⟨υ5, e1, e2, e3, e4⟩ := r_look d2.1 d2.2.1 d2.2.2.1
          rw [hss] at e1 e2 e3
          have k15 : υ5 0 15 = μ := (e4 0 15 (by omega)).trans d2.2.2.2
          unfold styE fX12_tokenNow
          rw [e1, Option.bind_some, Option.bind_some, r_wrong k15, Option.bind_some]
          refine ⟨_, rfl, ⟨BR_c (frM_BR (frL_M e4) d2.1) (up_j _ _ _ _ _ (by omega)) (up_k _ _ _ _ _ (by omega)), by omega, ?_, s, s2, ?_⟩, fun k j hk => ?_⟩
          · rw [up_e]; exact e3
          · rw [up_j _ _ _ _ _ (by omega)]; exact e2
          · rw [up_g, if_neg (by omega)]
            show υ5 k j = τ k j
            rw [e4 k j (by omega)]; exact fr k j (by omega)
theorem bad_style {B : Nat → Nat} {m e : Nat} {τ : Mem} (h : BD B m τ e) : ∃ υ, fX12_readsStyle τ = some (μ, υ) ∧ BD B m υ e ∧ frL τ υ := by
  have st : ∀ w i g, styT w i g τ = g τ := fun w i g => by
    unfold styT; rw [bad_takes h, Option.bind_some]; exact if_pos rfl
  rw [style_eq, st, st, st, st]
  obtain ⟨v, υ, a1, a2, a3⟩ := bad_look h
  unfold styE fX12_tokenNow
  rw [a1, Option.bind_some, Option.bind_some, r_wrong_no a2.2.2.1 a2.2.1, Option.bind_some]
  exact ⟨υ, rfl, a2, a3⟩
def lT3 (b : Nat) (v : Int32 × Mem) : Option Mem := (fX12_number (ι 1) (ι 999) (up v.2 4 (41 + 4 * b + 2) v.1)).bind fun v82 => some (up (up v82.2 4 (41 + 4 * b + 3) v82.1) 4 1 ((up v82.2 4 (41 + 4 * b + 3) v82.1) 4 1 + ι 1))
def lT2 (b : Nat) (v : Int32 × Mem) : Option Mem := (fX12_readsStyle (up v.2 4 (41 + 4 * b + 1) v.1)).bind (lT3 b)
def lT1 (b : Nat) (v : Int32 × Mem) : Option Mem := (fX12_leafRead v.1 (up v.2 4 (41 + 4 * b) v.1)).bind (lT2 b)
theorem label_eq {τ : Mem} {b : Nat} (h : τ 4 1 = ι b) (hb : b < 12) (x : Int32) : fX12_readsLabel x τ = (fX12_leafRead (ι 0) τ).bind (lT1 b) := by
  unfold fX12_readsLabel
  simp (disch := omega) only [l_0, l_1, l_2, l_3, l_4, l_5, l_6, l_7, l_8, l_9, l_10, l_12, l_13, l_24, l_31, l_32, l_40, l_41, l_42, l_44, l_45, l_48, l_49, l_50, l_57, l_59, l_60, l_65, l_88, l_89, l_97, l_98, l_99, l_100, l_105, l_108, l_109, l_114, l_118, l_120, l_122, l_144, l_255, l_269, l_279, l_339, l_400, l_600, l_999, l_1000, l_2373, l_2712, ι_lt, ι_le, ι_eq, ι_add, ι_mul, ι_sub, ι_div, ι_n, ι_m1, m1_ι, m1_lt, m1_le, lt_m1, le_m1, m1_lt_m1, m1_le_m1, m1_add1, neg_ι1, ι_addm, ι_addn, Bool.false_eq_true, Nat.not_lt_zero, Nat.add_zero, Nat.zero_add, Nat.mul_zero, Nat.reduceMul, Nat.reduceAdd, Nat.reduceSub, Nat.reduceLT, Nat.reduceLeDiff, Nat.reduceEqDiff, Nat.reduceDiv, Nat.reduceBEq, Nat.reduceBNe, false_or, or_false, true_or, or_true, and_true, true_and, false_and, and_false, not_false_eq_true, not_true_eq_false, if_true, if_false, if_pos, if_neg, Option.bind_some, ite_false, ite_true, eq_self, reduceIte, lm_0, lm_1, lm_2, lm_3, lm_4, lm_5, lm_6, lm_7, lm_8, lm_9, lm_10, lm_11, lm_12, lm_13, lm_14, lm_15, lm_16, lm_17, h, up_e]
  rfl
theorem leaf_bad {B : Nat → Nat} {m e k n : Nat} {τ : Mem} (h : BD B m τ e) (hQ : QP (τ 2) k n) (h4 : τ 0 4 = ι k) (x : Int32) : fX12_leafRead x τ = some (x, τ) := by
  unfold fX12_leafRead
  rw [r_leavesRead hQ h4, Option.bind_some, bad_number h, Option.bind_some]
theorem BD_4 {B : Nat → Nat} {m e j : Nat} {τ : Mem} {x : Int32} (h : BD B m τ e) : BD B m (up τ 4 j x) e := BD_c h (up_k _ _ _ _ _ (by omega)) (by rw [up_k _ _ _ _ _ (by omega)]) (by rw [up_k _ _ _ _ _ (by omega)]) (by rw [up_k _ _ _ _ _ (by omega)])
theorem frP_4 (τ : Mem) (j : Nat) (x : Int32) : frP τ (up τ 4 j x) := fun k i hk => by rw [up_g, if_neg (by omega)]
theorem bad_T3 {B : Nat → Nat} {m e b : Nat} {v : Int32 × Mem} (h : BD B m v.2 e) : ∃ υ, lT3 b v = some υ ∧ υ 0 15 = ι e ∧ frP v.2 υ := by
  unfold lT3
  rw [bad_number (BD_4 h), Option.bind_some]
  refine ⟨_, rfl, ?_, frP_trans (frP_4 _ _ _) (frP_trans (frP_4 _ _ _) (frP_4 _ _ _))⟩
  rw [up_k _ _ _ _ _ (by omega), up_k _ _ _ _ _ (by omega)]
  show up v.2 4 (41 + 4 * b + 2) v.1 0 15 = _
  rw [up_k _ _ _ _ _ (by omega)]; exact h.2.2.1
theorem bad_T2 {B : Nat → Nat} {m e b : Nat} {v : Int32 × Mem} (h : BD B m v.2 e) : ∃ υ, lT2 b v = some υ ∧ υ 0 15 = ι e ∧ frP v.2 υ := by
  unfold lT2
  obtain ⟨υ, a1, a2, a3⟩ := bad_style (BD_4 (j := 41 + 4 * b + 1) (x := v.1) h)
  rw [a1, Option.bind_some]
  obtain ⟨ω, b1, b2, b3⟩ := bad_T3 (b := b) (v := (μ, υ)) a2
  exact ⟨ω, b1, b2, frP_trans (frP_4 _ _ _) (frP_trans (frP_M (frL_M a3)) b3)⟩
theorem bad_T1 {B : Nat → Nat} {m e b k n : Nat} {v : Int32 × Mem} (h : BD B m v.2 e) (hQ : QP (v.2 2) k n) (h4 : v.2 0 4 = ι k) : ∃ υ, lT1 b v = some υ ∧ υ 0 15 = ι e ∧ frP v.2 υ := by
  unfold lT1
  rw [leaf_bad (BD_4 h) (k := k) (n := n) (by rw [up_k _ _ _ _ _ (by omega)]; exact hQ) (by rw [up_k _ _ _ _ _ (by omega)]; exact h4), Option.bind_some]
  obtain ⟨ω, b1, b2, b3⟩ := bad_T2 (b := b) (v := (v.1, up v.2 4 (41 + 4 * b) v.1)) (BD_4 h)
  exact ⟨ω, b1, b2, frP_trans (frP_4 _ _ _) b3⟩
theorem RP_4 {B : Nat → Nat} {m p j : Nat} {τ : Mem} {x : Int32} (h : RP B m τ p) : RP B m (up τ 4 j x) p := ⟨BR_c h.1 (by rw [up_k _ _ _ _ _ (by omega)]) (up_k _ _ _ _ _ (by omega)), h.2.1, by rw [up_k _ _ _ _ _ (by omega)]; exact h.2.2.1, by rw [up_k _ _ _ _ _ (by omega)]; exact h.2.2.2⟩
theorem c_start {σ : Mem} {v : Nat} (hv : v < 10000) : fX11_isStart (ι v) σ = some (if 1 ≤ v ∧ v ≤ 999 then ι 1 else ι 0) := by
  unfold fX11_isStart
  rw [l_1, l_999, ite_lt (by omega) (by omega), ite_lt (by omega) (by omega)]
  repeat' split
  all_goals first | rfl | omega
theorem c_startN {B : Nat → Nat} {m s : Nat} {σ : Mem} (hs : s ≤ m) (hno : ∀ v, nv B m s = some v → ¬ (1 ≤ v ∧ v ≤ 999)) : fX11_isStart (oi (nv B m s)) σ = some (ι 0) := by
  cases hv : nv B m s with
  | none => show fX11_isStart μ σ = _; unfold fX11_isStart; rw [if_pos (by decide)]; rfl
  | some v => show fX11_isStart (ι v) σ = _; rw [c_start (nv_lt hs hv), if_neg (hno v hv)]
theorem c_hlN {B : Nat → Nat} {m s k n a : Nat} {q F : Nat → Int32} {σ : Mem} (hs : s ≤ m) (hn : n ≤ 60) (hV : VR σ 3 q k n a F) (hno : ∀ v, nv B m s = some v → ¬ v < n) : fX10_hasLeaf 3 (oi (nv B m s)) σ = some (ι 0) := by
  cases hv : nv B m s with
  | none => exact c_hasLeaf_neg (by decide)
  | some v =>
    have := nv_lt hs hv
    show fX10_hasLeaf 3 (ι v) σ = _
    rw [c_hasLeaf hn hV (by omega), if_neg (hno v hv)]
theorem label_sim {B : Nat → Nat} {m s k n a b : Nat} {σ τ : Mem} (hB : BC B m σ) (hT : CT B m σ s) (hD : DR σ τ k n a b) (hk1 : 1 ≤ k) (hP : RP B m τ (Tk B m s)) : Out B m σ τ s (fX6_readLabel 1 σ) (fX12_readsLabel (ι s) τ) := by
  have hm := hB.1
  have hs := hT.1
  obtain ⟨t1, t2, t3, t4⟩ := Tk_spec (B := B) hs
  obtain ⟨u1, u2, u3, u4⟩ := Skp_spec (B := B) t2
  have hQ := hD.1
  have hn := hQ.2.2.2
  have hn1 := QP_pos hQ hk1
  have hF := hD.2.2.1
  have ha := hF.2.1
  have hb := hF.2.2.2.2.1
  have h41 : τ 4 1 = ι b := hF.2.2.2.1
  have hV := hD.2.2.2.1
  have hL := hD.2.2.2.2.1
  have htr : fX1_takesRange 14 σ = some (if b < 12 then ι 1 else ι 0) := by
    unfold fX1_takesRange
    rw [hL.2.1, l_12, ite_le (by omega) (by omega)]
    by_cases c : 12 ≤ b
    · rw [if_pos c, if_neg (by omega)]; rfl
    · rw [if_neg c, if_pos (by omega)]; rfl
  by_cases hb12 : b = 12
  · unfold fX6_readLabel fX12_readsLabel
    rw [show (1 + 1) + 12 = 14 from rfl, htr, Option.bind_some, if_neg (show ¬ b < 12 by omega), if_pos (show ι 0 = (0 : Int32) from rfl), if_neg (show ¬ ((1 : Int32) < 0 ∨ lm 4 ≤ (1 : Int32).toNatClampNeg) by decide), if_pos (show τ 4 (1 : Int32).toNatClampNeg = (12 : Int32) from h41.trans (by rw [hb12]; rfl)), r_wrong hP.2.2.2, Option.bind_some]
    exact out_no (fun _ _ => rfl) (fun k j hk => by rw [up_g, if_neg (by omega)]) (by omega) hT.2.2.1 (up_e _ _ _ _)
  · have hb' : b < 12 := by omega
    rw [label_eq h41 hb']
    unfold fX6_readLabel
    rw [show (1 + 1) + 12 = 14 from rfl, htr, Option.bind_some, if_pos hb', if_neg (by decide), show (1 + 1) + 1 = 3 from rfl]
    obtain ⟨ρ1, a1, a2, a3, a4⟩ := c_nextT hB hT
    obtain ⟨g1, g2⟩ := r_leafRead (x := 0) hP rfl (by omega) hQ hD.2.1 hn1
    rw [a1, Option.bind_some, a2.2.2.2.2]
    have V1 : VR ρ1 3 (τ 2) k n a (τ 4) := VR_c hn ha hV (fun j hj => a4 _ (by omega)) (fun _ _ => rfl)
    have f1 : frQ σ ρ1 := frQ_1 a4
    generalize hs1 : Skp B m (Tk B m s) = s1 at *
    by_cases hok : ∃ v, nv B m s1 = some v ∧ v < n
    · obtain ⟨v, hv, hvn⟩ := hok
      obtain ⟨υ, b1, b2, b3, b4⟩ := g1 v hv (by omega) hvn
      rw [b1, Option.bind_some, hv]
      show Out B m σ τ s ((fX10_hasLeaf 3 (ι v) ρ1).bind _) _
      rw [c_hasLeaf hn V1 (by omega), Option.bind_some, if_pos hvn, if_neg (by decide)]
      obtain ⟨tt1, tt2, tt3, tt4⟩ := Tk_spec (B := B) u2
      obtain ⟨uu1, uu2, uu3, uu4⟩ := Skp_spec (B := B) tt2
      obtain ⟨ρ2, c1, c2, c3, c4⟩ := c_nextT a3 a2
      have V2 : VR ρ2 3 (τ 2) k n a (τ 4) := VR_c hn ha V1 (fun j hj => c4 _ (by omega)) (fun _ _ => rfl)
      have f2 : frQ σ ρ2 := frQ_trans f1 (frQ_1 c4)
      have e2 : υ 2 = τ 2 := funext fun j => b4 2 j (by omega)
      have e04 : υ 0 4 = ι k := (b4 0 4 (by omega)).trans hD.2.1
      unfold lT1
      show Out B m σ τ s _ ((fX12_leafRead (ι v) (up υ 4 (41 + 4 * b) (ι v))).bind (lT2 b))
      have P2 : RP B m (up υ 4 (41 + 4 * b) (ι v)) (Tk B m s1) := RP_4 b2
      obtain ⟨j1, j2⟩ := r_leafRead (x := v) P2 rfl (by omega) (k := k) (n := n) (by rw [up_k _ _ _ _ _ (by omega), e2]; exact hQ) (by rw [up_k _ _ _ _ _ (by omega)]; exact e04) hn1
      rw [c1, Option.bind_some, c2.2.2.2.2]
      have fr1 : frP τ (up υ 4 (41 + 4 * b) (ι v)) := frP_trans (frP_M (frL_M b4)) (frP_4 _ _ _)
      generalize hs2 : Skp B m (Tk B m s1) = s2 at *
      by_cases hok2 : ∃ w, nv B m s2 = some w ∧ v ≤ w ∧ w < n
      · obtain ⟨w, hw, hvw, hwn⟩ := hok2
        obtain ⟨υ2, d1, d2, d3, d4⟩ := j1 w hw hvw hwn
        have vl := nv_lt u2 hv
        have wlt := nv_lt uu2 hw
        rw [d1, Option.bind_some, hw]
        show Out B m σ τ s ((fX10_hasLeaf 3 (ι w) ρ2).bind _) (lT2 b (ι w, υ2))
        rw [c_hasLeaf hn V2 (by omega), Option.bind_some, if_pos hwn, if_neg (by decide), if_pos (show oi (some v) ≤ oi (some w) from (by rw [show oi (some v) = ι v from rfl, show oi (some w) = ι w from rfl, ι_le (by omega) (by omega)]; exact hvw))]
        obtain ⟨x1, x2, x3, x4⟩ := Tk_spec (B := B) uu2
        obtain ⟨y1, y2, y3, y4⟩ := Skp_spec (B := B) x2
        obtain ⟨ρ3, e1, e3, e5, e6⟩ := c_nextT c3 c2
        have f3 : frQ σ ρ3 := frQ_trans f2 (frQ_1 e6)
        unfold lT2
        show Out B m σ τ s _ ((fX12_readsStyle (up υ2 4 (41 + 4 * b + 1) (ι w))).bind (lT3 b))
        have P3 : RP B m (up υ2 4 (41 + 4 * b + 1) (ι w)) (Tk B m s2) := RP_4 d2
        have fr2 : frP τ (up υ2 4 (41 + 4 * b + 1) (ι w)) := frP_trans fr1 (frP_trans (frP_M (frL_M d4)) (frP_4 _ _ _))
        obtain ⟨k1, k2⟩ := r_style P3 rfl
        rw [e1, Option.bind_some, c_style e5 e3, Option.bind_some]
        generalize hs3 : Skp B m (Tk B m s2) = s3 at *
        cases hsy : sy B m s3 with
        | none =>
          obtain ⟨υ3, q1, q2, q3⟩ := k2 hsy
          rw [if_pos (show oi none = (-1 : Int32) from rfl), q1, Option.bind_some]
          obtain ⟨ω, r1, r2, r3⟩ := bad_T3 (b := b) (v := (μ, υ3)) q2
          rw [r1]
          exact out_no (s' := s3) f3 (frP_trans fr2 (frP_trans (frP_M q3) r3)) (by omega) e3.2.2.1 r2
        | some i =>
          have hi := sy_lt hsy
          obtain ⟨υ3, q1, q2, q3⟩ := k1 i hsy
          rw [if_neg (oi_pos rfl (by omega)), q1, Option.bind_some]
          obtain ⟨x1', x2', x3', x4'⟩ := Tk_spec (B := B) y2
          obtain ⟨y1', y2', y3', y4'⟩ := Skp_spec (B := B) x2'
          obtain ⟨ρ4, l1, l2, l3, l4⟩ := c_nextT e5 e3
          have f4 : frQ σ ρ4 := frQ_trans f3 (frQ_1 l4)
          unfold lT3
          show Out B m σ τ s _ ((fX12_number (ι 1) (ι 999) (up υ3 4 (41 + 4 * b + 2) (ι i))).bind _)
          have P4 : RP B m (up υ3 4 (41 + 4 * b + 2) (ι i)) (Tk B m s3) := RP_4 q2
          have fr3 : frP τ (up υ3 4 (41 + 4 * b + 2) (ι i)) := frP_trans fr2 (frP_trans (frP_M (frL_M q3)) (frP_4 _ _ _))
          obtain ⟨z1, z2⟩ := r_num (z := ι 999) (x := 1) P4 rfl (by omega)
          rw [l1, Option.bind_some, l2.2.2.2.2]
          generalize hs4 : Skp B m (Tk B m s3) = s4 at *
          by_cases hok4 : ∃ t, nv B m s4 = some t ∧ 1 ≤ t ∧ t ≤ 999
          · obtain ⟨t, ht, ht1, ht2⟩ := hok4
            have tlt := nv_lt y2' ht
            obtain ⟨υ4, o1, o2, o3, o4⟩ := z1 t ht (by rw [ι_le (by omega) (by omega)]; exact ht1) (by rw [ι_le (by omega) (by omega)]; exact ht2)
            rw [o1, Option.bind_some, ht]
            show Out B m σ τ s ((fX11_isStart (ι t) ρ4).bind _) (some (up (up υ4 4 (41 + 4 * b + 3) (ι t)) 4 1 (up υ4 4 (41 + 4 * b + 3) (ι t) 4 1 + ι 1)))
            rw [c_start tlt, Option.bind_some, if_pos (show 1 ≤ t ∧ t ≤ 999 from ⟨ht1, ht2⟩), if_neg (by decide)]
            have E : ∀ j, υ4 4 j = if j = 41 + 4 * b + 2 then ι i else if j = 41 + 4 * b + 1 then ι w else if j = 41 + 4 * b then ι v else τ 4 j := fun j => by
              rw [o4 4 j (by omega)]
              by_cases c2 : j = 41 + 4 * b + 2
              · rw [if_pos c2, c2, up_e]
              · rw [if_neg c2, up_j _ _ _ _ _ c2, q3 4 j (by omega)]
                by_cases c1 : j = 41 + 4 * b + 1
                · rw [if_pos c1, c1, up_e]
                · rw [if_neg c1, up_j _ _ _ _ _ c1, d4 4 j (by omega)]
                  by_cases c0 : j = 41 + 4 * b
                  · rw [if_pos c0, c0, up_e]
                  · rw [if_neg c0, up_j _ _ _ _ _ c0, b4 4 j (by omega)]
            have fr4 : frP τ υ4 := frP_trans fr3 (frP_M (frL_M o4))
            have E2 : υ4 2 = τ 2 := funext fun j => by
              rw [o4 2 j (by omega), up_k _ _ _ _ _ (by omega), q3 2 j (by omega), up_k _ _ _ _ _ (by omega), d4 2 j (by omega), up_k _ _ _ _ _ (by omega), b4 2 j (by omega)]
            have E04 : υ4 0 4 = τ 0 4 := by
              rw [o4 0 4 (by omega), up_k _ _ _ _ _ (by omega), q3 0 4 (by omega), up_k _ _ _ _ _ (by omega), d4 0 4 (by omega), up_k _ _ _ _ _ (by omega), b4 0 4 (by omega)]
            have E1 : up υ4 4 (41 + 4 * b + 3) (ι t) 4 1 = ι b := by
              rw [up_j _ _ _ _ _ (by omega), E 1, if_neg (by omega), if_neg (by omega), if_neg (by omega)]; exact h41
            rw [E1, ι_add]
            have hD4 : DR ρ4 τ k n a b := DR_c hD (fun j h1 h2 => by rw [l4 j (by omega), e6 j (by omega), c4 j (by omega), a4 j (by omega)]) rfl rfl rfl
            obtain ⟨ρ5, m1, m2, m3⟩ := range_DR (υ := up (up υ4 4 (41 + 4 * b + 3) (ι t)) 4 1 (ι (b + 1))) hD4 hb' hvw hwn hi ht1 ht2 (by rw [up_k _ _ _ _ _ (by omega), up_k _ _ _ _ _ (by omega)]; exact E2) (by rw [up_k _ _ _ _ _ (by omega), up_k _ _ _ _ _ (by omega)]; exact E04) (by rw [up_j _ _ _ _ _ (by omega), up_j _ _ _ _ _ (by omega), E, if_neg (by omega), if_neg (by omega), if_pos rfl]) (by rw [up_j _ _ _ _ _ (by omega), up_j _ _ _ _ _ (by omega), E, if_neg (by omega), if_pos rfl]) (by rw [up_j _ _ _ _ _ (by omega), up_j _ _ _ _ _ (by omega), E, if_pos rfl]) (by rw [up_j _ _ _ _ _ (by omega), up_e]) (up_e _ _ _ _) (fun l g1 g2 => by rw [up_j _ _ _ _ _ g1, up_j _ _ _ _ _ (by omega), E, if_neg (by omega), if_neg (by omega), if_neg (by omega)])
            have m1 : fX1_add 14 (oi (some v)) (oi (some w)) (oi (some i)) (oi (some t)) ρ4 = some ρ5 := m1
            rw [m1, Option.bind_some]
            obtain ⟨ρ6, n1, n2, n3, n4⟩ := c_nextT (frQ_BC (frQ_3 m3) l3) (CT_c l2 (m3 1 (by omega)))
            rw [n1, Option.bind_some]
            have hw' := Tk_spec (B := B) y2'
            have hx' := Skp_spec (B := B) hw'.2.1
            refine out_yes (frQ_trans f4 (frQ_trans (frQ_3 m3) (frQ_1 n4))) (frP_trans fr4 (frP_trans (frP_4 _ _ _) (frP_4 _ _ _))) hk1 (DR_c m2 (fun j h1 h2 => n4 j (by omega)) rfl rfl rfl) n2 (RP_4 (RP_4 o2)) rfl (by omega)
          · have hno4 : ∀ t, nv B m s4 = some t → ¬ (1 ≤ t ∧ t ≤ 999) := fun t ht z => hok4 ⟨t, ht, z.1, z.2⟩
            obtain ⟨υ4, p', o1, o2, o3, o4, o5⟩ := z2 (fun t ht z => by
              have tlt := nv_lt y2' ht
              rw [ι_le (by omega) (by omega), ι_le (by omega) (by omega)] at z
              exact hno4 t ht z)
            rw [o1, Option.bind_some, c_startN y2' hno4, Option.bind_some, if_pos (show ι 0 = (0 : Int32) from rfl)]
            refine out_no (s' := s4) f4 (frP_trans fr3 (frP_trans (frP_M o5) (frP_trans (frP_4 _ _ _) (frP_4 _ _ _)))) (by omega) l2.2.2.1 ?_
            rw [up_k _ _ _ _ _ (by omega), up_k _ _ _ _ _ (by omega)]; exact o2
      · have hno2 : ∀ w, nv B m s2 = some w → ¬ (v ≤ w ∧ w < n) := fun w hw z => hok2 ⟨w, hw, z.1, z.2⟩
        obtain ⟨υ2, d1, d2, d3⟩ := j2 hno2
        rw [d1, Option.bind_some]
        obtain ⟨ω, q1, q2, q3⟩ := bad_T2 (b := b) (v := (ι v, υ2)) d2
        rw [q1]
        have hend := out_no (B := B) (m := m) (σ := σ) (τ := τ) (s := s) (s' := s2) f2 (frP_trans fr1 (frP_trans (frP_M d3) q3)) (by omega) c2.2.2.1 q2
        cases hw : nv B m s2 with
        | none =>
          show Out B m σ τ s ((fX10_hasLeaf 3 μ ρ2).bind _) _
          rw [c_hasLeaf_neg (by decide), Option.bind_some, if_pos (show ι 0 = (0 : Int32) from rfl)]
          exact hend
        | some w =>
          have wlt := nv_lt uu2 hw
          have vl := nv_lt u2 hv
          show Out B m σ τ s ((fX10_hasLeaf 3 (ι w) ρ2).bind _) _
          rw [c_hasLeaf hn V2 (by omega), Option.bind_some]
          by_cases hwn : w < n
          · rw [if_pos hwn, if_neg (by decide), if_neg (show ¬ oi (some v) ≤ oi (some w) from (by rw [show oi (some v) = ι v from rfl, show oi (some w) = ι w from rfl, ι_le (by omega) (by omega)]; exact fun z => hno2 w hw ⟨z, hwn⟩))]
            exact hend
          · rw [if_neg hwn, if_pos (show ι 0 = (0 : Int32) from rfl)]
            exact hend
    · have hno : ∀ v, nv B m s1 = some v → ¬ (0 ≤ v ∧ v < n) := fun v hv z => hok ⟨v, hv, z.2⟩
      obtain ⟨υ, b1, b2, b3⟩ := g2 hno
      rw [c_hlN u2 hn V1 (fun v hv z => hok ⟨v, hv, z⟩), b1, Option.bind_some, Option.bind_some, if_pos (show ι 0 = (0 : Int32) from rfl)]
      obtain ⟨ω, q1, q2, q3⟩ := bad_T1 (b := b) (v := (ι 0, υ)) b2 (k := k) (n := n) (by show QP (υ 2) k n; rw [show υ 2 = τ 2 from funext fun j => b3 2 j (by omega)]; exact hQ) ((b3 0 4 (by omega)).trans hD.2.1)
      rw [q1]
      exact out_no (s' := s1) f1 (frP_trans (frP_M b3) q3) (by omega) a2.2.2.1 q2

/-! PURE PART: statements of the setup text, missing leaves -/
def rS (F : Nat → Int32) (v s : Nat) : Bool := decide (F (5 + 3 * s) = ι v)
theorem ff_is_some {P : Nat → Bool} {a : Nat} : (ff P 0 a).isSome = true ↔ ∃ s, s < a ∧ P s = true := by
  constructor
  · intro h
    cases hf : ff P 0 a with
    | none => rw [hf] at h; cases h
    | some s => exact ⟨s, by have := (ff_some _ _ hf).2.1; omega, (ff_some _ _ hf).2.2.1⟩
  · intro ⟨s, h1, h2⟩
    cases hf : ff P 0 a with
    | none => have := ff_none _ _ hf s (by omega) (by omega); rw [h2] at this; cases this
    | some s => rfl
theorem r_hs_l {τ : Mem} {a v : Nat} (h0 : τ 4 0 = ι a) (ha : a ≤ 12) : ∀ d f i, i + d = a → d < f → (fX12_hasSlipRead_l2 (ι v) f (ι i) τ).bind (fun q2 => match q2 with | .inl r => some r | .inr q2 => some (0 : Int32)) = some (if (ff (rS (τ 4) v) i d).isSome then ι 1 else ι 0) := by
  intro d
  induction d with
  | zero =>
    intro f i hi hf
    obtain ⟨f, rfl⟩ : ∃ k, f = k + 1 := ⟨f - 1, by omega⟩
    rw [fX12_hasSlipRead_l2, if_neg (show ¬ ((0 : Int32) < 0 ∨ lm 4 ≤ (0 : Int32).toNatClampNeg) by decide), show τ 4 (0 : Int32).toNatClampNeg = ι a from h0, if_pos (by rw [ι_le (by omega) (by omega)]; omega)]
    rfl
  | succ d ih =>
    intro f i hi hf
    obtain ⟨f, rfl⟩ : ∃ k, f = k + 1 := ⟨f - 1, by omega⟩
    have hfn : ¬ ((5 : Int32) + (3 : Int32) * ι i < 0 ∨ lm 4 ≤ ((5 : Int32) + (3 : Int32) * ι i).toNatClampNeg) := by simp (disch := omega) only [l_0, l_1, l_2, l_3, l_4, l_5, l_6, l_7, l_8, l_9, l_10, l_12, l_13, l_24, l_31, l_32, l_40, l_41, l_42, l_44, l_45, l_48, l_49, l_50, l_57, l_59, l_60, l_65, l_88, l_89, l_97, l_98, l_99, l_100, l_105, l_108, l_109, l_114, l_118, l_120, l_122, l_144, l_255, l_269, l_279, l_339, l_400, l_600, l_999, l_1000, l_2373, l_2712, ι_lt, ι_le, ι_eq, ι_add, ι_mul, ι_sub, ι_div, ι_n, ι_m1, m1_ι, m1_lt, m1_le, lt_m1, le_m1, m1_lt_m1, m1_le_m1, m1_add1, neg_ι1, ι_addm, ι_addn, Bool.false_eq_true, Nat.not_lt_zero, Nat.add_zero, Nat.zero_add, Nat.mul_zero, Nat.reduceMul, Nat.reduceAdd, Nat.reduceSub, Nat.reduceLT, Nat.reduceLeDiff, Nat.reduceEqDiff, Nat.reduceDiv, Nat.reduceBEq, Nat.reduceBNe, false_or, or_false, true_or, or_true, and_true, true_and, false_and, and_false, not_false_eq_true, not_true_eq_false, if_true, if_false, if_pos, if_neg, Option.bind_some, ite_false, ite_true, eq_self, reduceIte, lm_0, lm_1, lm_2, lm_3, lm_4, lm_5, lm_6, lm_7, lm_8, lm_9, lm_10, lm_11, lm_12, lm_13, lm_14, lm_15, lm_16, lm_17]; omega
    have hnn : ((5 : Int32) + (3 : Int32) * ι i).toNatClampNeg = 5 + 3 * i := by simp (disch := omega) only [l_0, l_1, l_2, l_3, l_4, l_5, l_6, l_7, l_8, l_9, l_10, l_12, l_13, l_24, l_31, l_32, l_40, l_41, l_42, l_44, l_45, l_48, l_49, l_50, l_57, l_59, l_60, l_65, l_88, l_89, l_97, l_98, l_99, l_100, l_105, l_108, l_109, l_114, l_118, l_120, l_122, l_144, l_255, l_269, l_279, l_339, l_400, l_600, l_999, l_1000, l_2373, l_2712, ι_lt, ι_le, ι_eq, ι_add, ι_mul, ι_sub, ι_div, ι_n, ι_m1, m1_ι, m1_lt, m1_le, lt_m1, le_m1, m1_lt_m1, m1_le_m1, m1_add1, neg_ι1, ι_addm, ι_addn, Bool.false_eq_true, Nat.not_lt_zero, Nat.add_zero, Nat.zero_add, Nat.mul_zero, Nat.reduceMul, Nat.reduceAdd, Nat.reduceSub, Nat.reduceLT, Nat.reduceLeDiff, Nat.reduceEqDiff, Nat.reduceDiv, Nat.reduceBEq, Nat.reduceBNe, false_or, or_false, true_or, or_true, and_true, true_and, false_and, and_false, not_false_eq_true, not_true_eq_false, if_true, if_false, if_pos, if_neg, Option.bind_some, ite_false, ite_true, eq_self, reduceIte]
    rw [fX12_hasSlipRead_l2, if_neg (show ¬ ((0 : Int32) < 0 ∨ lm 4 ≤ (0 : Int32).toNatClampNeg) by decide), show τ 4 (0 : Int32).toNatClampNeg = ι a from h0, if_neg (by rw [ι_le (by omega) (by omega)]; omega), if_neg hfn, hnn, ff, l_1, ι_add]
    by_cases e : τ 4 (5 + 3 * i) = ι v
    · have hq : rS (τ 4) v i = true := by unfold rS; rw [decide_eq_true_eq]; exact e
      rw [if_pos e, if_pos hq]; rfl
    · have hq : ¬ rS (τ 4) v i = true := by unfold rS; rw [decide_eq_true_eq]; exact e
      rw [if_neg e, if_neg hq]
      exact ih f (i + 1) (by omega) (by omega)
theorem r_hasSlipRead {τ : Mem} {a v : Nat} (h0 : τ 4 0 = ι a) (ha : a ≤ 12) : fX12_hasSlipRead (ι v) τ = some (if (ff (rS (τ 4) v) 0 a).isSome then ι 1 else ι 0) := r_hs_l h0 ha a FU 0 (by omega) (by unfold FU; omega)
def hsl (F : Nat → Int32) (a v : Nat) : Bool := (ff (rS F v) 0 a).isSome
theorem hsl_c {F G : Nat → Int32} {a v : Nat} (ha : a ≤ 12) (h : ∀ j, 5 ≤ j → j < 41 → G j = F j) : hsl G a v = hsl F a v := by
  unfold hsl
  rw [ff_congr (P := rS G v) (Q := rS F v) a 0 (fun s _ hs => by unfold rS; rw [h _ (by omega) (by omega)])]
theorem hs_range {F : Nat → Int32} {n a x y : Nat} (hn : n ≤ 60) (hx : x < 60) (hy : y < n) (hS : ∀ s, s < a → SlI n F s) : (ff (hsB F (ι x) (ι y)) 0 a).isSome = true ↔ ∃ v, x ≤ v ∧ v ≤ y ∧ hsl F a v = true := by
  rw [ff_is_some]
  constructor
  · intro ⟨s, h1, h2⟩
    unfold hsB at h2
    rw [decide_eq_true_eq] at h2
    rcases (hS s h1).1 with z | ⟨p, q, p1, p2, p3, p4⟩
    · exact absurd z.1 h2.1
    · rw [p3, ι_lt (by omega) (by omega), ι_lt (by omega) (by omega)] at h2
      exact ⟨p, by omega, by omega, by unfold hsl; rw [ff_is_some]; exact ⟨s, h1, by unfold rS; rw [decide_eq_true_eq]; exact p3⟩⟩
  · intro ⟨v, h1, h2, h3⟩
    unfold hsl at h3
    rw [ff_is_some] at h3
    obtain ⟨s, s1, s2⟩ := h3
    unfold rS at s2
    rw [decide_eq_true_eq] at s2
    refine ⟨s, s1, ?_⟩
    unfold hsB
    rw [decide_eq_true_eq, s2]
    exact ⟨fun z => by rw [ι_m1 (by omega)] at z; exact z, by rw [ι_lt (by omega) (by omega)]; omega, by rw [ι_lt (by omega) (by omega)]; omega⟩
theorem r_tm_yes {τ : Mem} {a v : Nat} (h15 : τ 0 15 = μ) (h0 : τ 4 0 = ι a) (ha : a ≤ 12) (hv : v < 60) (hs : hsl (τ 4) a v = true) {s : Nat} (hs6 : s ≤ 600) (h14 : τ 0 14 = ι s) : fX12_tellsMissing (ι v) τ = some (up τ 0 15 (ι s)) := by
  unfold fX12_tellsMissing
  have h1 := r_hasSlipRead (v := v) h0 ha
  unfold hsl at hs
  rw [if_pos hs] at h1
  rw [r_fine h15, Option.bind_some, if_neg (by decide), h1, Option.bind_some, if_neg (by decide), r_wrong h15, Option.bind_some, h14, r_notf (s := s) (up_e _ _ _ _) hs6, Option.bind_some, if_pos (show ι 0 = (0 : Int32) from rfl)]
theorem r_tm_no {τ : Mem} {a v : Nat} (h15 : τ 0 15 = μ) (h0 : τ 4 0 = ι a) (ha : a ≤ 12) (hv : v < 60) (hs : ¬ hsl (τ 4) a v = true) : fX12_tellsMissing (ι v) τ = some (up τ 4 (279 + v) (ι 1)) := by
  unfold fX12_tellsMissing
  have h1 := r_hasSlipRead (v := v) h0 ha
  unfold hsl at hs
  rw [if_neg hs] at h1
  have hfn : ¬ ((279 : Int32) + ι v < 0 ∨ lm 4 ≤ ((279 : Int32) + ι v).toNatClampNeg) := by simp (disch := omega) only [l_0, l_1, l_2, l_3, l_4, l_5, l_6, l_7, l_8, l_9, l_10, l_12, l_13, l_24, l_31, l_32, l_40, l_41, l_42, l_44, l_45, l_48, l_49, l_50, l_57, l_59, l_60, l_65, l_88, l_89, l_97, l_98, l_99, l_100, l_105, l_108, l_109, l_114, l_118, l_120, l_122, l_144, l_255, l_269, l_279, l_339, l_400, l_600, l_999, l_1000, l_2373, l_2712, ι_lt, ι_le, ι_eq, ι_add, ι_mul, ι_sub, ι_div, ι_n, ι_m1, m1_ι, m1_lt, m1_le, lt_m1, le_m1, m1_lt_m1, m1_le_m1, m1_add1, neg_ι1, ι_addm, ι_addn, Bool.false_eq_true, Nat.not_lt_zero, Nat.add_zero, Nat.zero_add, Nat.mul_zero, Nat.reduceMul, Nat.reduceAdd, Nat.reduceSub, Nat.reduceLT, Nat.reduceLeDiff, Nat.reduceEqDiff, Nat.reduceDiv, Nat.reduceBEq, Nat.reduceBNe, false_or, or_false, true_or, or_true, and_true, true_and, false_and, and_false, not_false_eq_true, not_true_eq_false, if_true, if_false, if_pos, if_neg, Option.bind_some, ite_false, ite_true, eq_self, reduceIte, lm_0, lm_1, lm_2, lm_3, lm_4, lm_5, lm_6, lm_7, lm_8, lm_9, lm_10, lm_11, lm_12, lm_13, lm_14, lm_15, lm_16, lm_17]; omega
  have hnn : ((279 : Int32) + ι v).toNatClampNeg = 279 + v := by simp (disch := omega) only [l_0, l_1, l_2, l_3, l_4, l_5, l_6, l_7, l_8, l_9, l_10, l_12, l_13, l_24, l_31, l_32, l_40, l_41, l_42, l_44, l_45, l_48, l_49, l_50, l_57, l_59, l_60, l_65, l_88, l_89, l_97, l_98, l_99, l_100, l_105, l_108, l_109, l_114, l_118, l_120, l_122, l_144, l_255, l_269, l_279, l_339, l_400, l_600, l_999, l_1000, l_2373, l_2712, ι_lt, ι_le, ι_eq, ι_add, ι_mul, ι_sub, ι_div, ι_n, ι_m1, m1_ι, m1_lt, m1_le, lt_m1, le_m1, m1_lt_m1, m1_le_m1, m1_add1, neg_ι1, ι_addm, ι_addn, Bool.false_eq_true, Nat.not_lt_zero, Nat.add_zero, Nat.zero_add, Nat.mul_zero, Nat.reduceMul, Nat.reduceAdd, Nat.reduceSub, Nat.reduceLT, Nat.reduceLeDiff, Nat.reduceEqDiff, Nat.reduceDiv, Nat.reduceBEq, Nat.reduceBNe, false_or, or_false, true_or, or_true, and_true, true_and, false_and, and_false, not_false_eq_true, not_true_eq_false, if_true, if_false, if_pos, if_neg, Option.bind_some, ite_false, ite_true, eq_self, reduceIte]
  rw [r_fine h15, Option.bind_some, if_neg (by decide), h1, Option.bind_some, if_pos (show ι 0 = (0 : Int32) from rfl), Option.bind_some, if_neg (by decide), if_neg hfn, hnn]
  rfl
theorem bad_tm {B : Nat → Nat} {m e : Nat} {τ : Mem} (h : BD B m τ e) (x : Int32) : fX12_tellsMissing x τ = some τ := by
  unfold fX12_tellsMissing
  rw [r_notf h.2.2.1 h.2.1, Option.bind_some, if_pos (show ι 0 = (0 : Int32) from rfl), Option.bind_some, if_pos (show ι 0 = (0 : Int32) from rfl)]
theorem r_l39_ok {a y : Nat} (ha : a ≤ 12) (hy : y < 60) : ∀ d f i (τ : Mem), i + d = y + 1 → d < f → τ 0 15 = μ → τ 4 0 = ι a → (∀ v, i ≤ v → v ≤ y → ¬ hsl (τ 4) a v = true) → ∃ z υ, fX12_readsMissing_l39 (ι y) f (ι i) τ = some (z, υ) ∧ (∀ j, i ≤ j → j ≤ y → υ 4 (279 + j) = ι 1) ∧ ∀ k j, ¬ (k = 4 ∧ 279 + i ≤ j ∧ j ≤ 279 + y) → υ k j = τ k j := by
  intro d
  induction d with
  | zero =>
    intro f i τ hi hf h15 h0 hno
    obtain ⟨f, rfl⟩ : ∃ k, f = k + 1 := ⟨f - 1, by omega⟩
    rw [fX12_readsMissing_l39, if_pos (by rw [ι_lt (by omega) (by omega)]; omega)]
    exact ⟨_, _, rfl, fun j h1 h2 => by omega, fun _ _ _ => rfl⟩
  | succ d ih =>
    intro f i τ hi hf h15 h0 hno
    obtain ⟨f, rfl⟩ : ∃ k, f = k + 1 := ⟨f - 1, by omega⟩
    rw [fX12_readsMissing_l39, if_neg (by rw [ι_lt (by omega) (by omega)]; omega), r_fine h15, Option.bind_some, if_neg (by decide), r_tm_no h15 h0 ha (by omega) (hno i (by omega) (by omega)), Option.bind_some, l_1, ι_add]
    obtain ⟨z, υ, b1, b2, b3⟩ := ih f (i + 1) (up τ 4 (279 + i) (ι 1)) (by omega) (by omega) (by rw [up_k _ _ _ _ _ (by omega)]; exact h15) (by rw [up_j _ _ _ _ _ (by omega)]; exact h0) (fun v h1 h2 => by
      rw [hsl_c (F := τ 4) ha (fun j g1 g2 => by rw [up_j _ _ _ _ _ (by omega)])]; exact hno v (by omega) h2)
    refine ⟨z, υ, b1, fun j h1 h2 => ?_, fun k j hk => ?_⟩
    · by_cases e : j = i
      · rw [b3 4 (279 + j) (by omega), e, up_e]
      · exact b2 j (by omega) h2
    · rw [b3 k j (by omega), up_g, if_neg (by omega)]
theorem r_l39_no {a y s : Nat} (ha : a ≤ 12) (hy : y < 60) (hs6 : s ≤ 600) : ∀ d f i (τ : Mem), i + d = y + 1 → d < f → τ 0 15 = μ → τ 0 14 = ι s → τ 4 0 = ι a → (∃ v, i ≤ v ∧ v ≤ y ∧ hsl (τ 4) a v = true) → ∃ z υ, fX12_readsMissing_l39 (ι y) f (ι i) τ = some (z, υ) ∧ υ 0 15 = ι s ∧ frP τ υ := by
  intro d
  induction d with
  | zero =>
    intro f i τ hi hf h15 h14 h0 ⟨v, h1, h2, h3⟩
    omega
  | succ d ih =>
    intro f i τ hi hf h15 h14 h0 ⟨v, h1, h2, h3⟩
    obtain ⟨f, rfl⟩ : ∃ k, f = k + 1 := ⟨f - 1, by omega⟩
    rw [fX12_readsMissing_l39, if_neg (by rw [ι_lt (by omega) (by omega)]; omega), r_fine h15, Option.bind_some, if_neg (by decide), l_1, ι_add]
    by_cases hi' : hsl (τ 4) a i = true
    · rw [r_tm_yes h15 h0 ha (by omega) hi' hs6 h14, Option.bind_some]
      obtain ⟨f, rfl⟩ : ∃ k, f = k + 1 := ⟨f - 1, by omega⟩
      rw [fX12_readsMissing_l39]
      have fr : frP τ (up τ 0 15 (ι s)) := fun k j hk => by rw [up_g, if_neg (by omega)]
      by_cases c : ι y < ι (i + 1)
      · rw [if_pos c]
        exact ⟨_, _, rfl, up_e _ _ _ _, fr⟩
      · rw [if_neg c, r_notf (s := s) (up_e _ _ _ _) hs6, Option.bind_some, if_pos (show ι 0 = (0 : Int32) from rfl)]
        exact ⟨_, _, rfl, up_e _ _ _ _, fr⟩
    · rw [r_tm_no h15 h0 ha (by omega) hi', Option.bind_some]
      have hvi : v ≠ i := fun z => hi' (by rw [← z]; exact h3)
      obtain ⟨z, υ, b1, b2, b3⟩ := ih f (i + 1) (up τ 4 (279 + i) (ι 1)) (by omega) (by omega) (by rw [up_k _ _ _ _ _ (by omega)]; exact h15) (by rw [up_k _ _ _ _ _ (by omega)]; exact h14) (by rw [up_j _ _ _ _ _ (by omega)]; exact h0) ⟨v, by omega, h2, by
        rw [hsl_c (F := τ 4) ha (fun j g1 g2 => by rw [up_j _ _ _ _ _ (by omega)])]; exact h3⟩
      exact ⟨z, υ, b1, b2, frP_trans (frP_4 _ _ _) b3⟩
theorem c_sm {σ : Mem} {i : Nat} (hl : ln (3 + 3 + 1) = 60) (hi : i < 60) : fX10_setMissing 3 (ι i) (1 : Int32) σ = some (up σ 7 i (ι 1)) := by
  unfold fX10_setMissing
  rw [if_neg (by decide), c_put hl (by omega) hi, Option.bind_some]; rfl
theorem c_l101 {y : Nat} (hl : ln (3 + 3 + 1) = 60) (hy : y < 60) : ∀ d f i (σ : Mem), i + d = y + 1 → d < f → ∃ z ρ, fX6_readMissing_l101 1 (ι y) f (ι i) σ = some (z, ρ) ∧ (∀ j, i ≤ j → j ≤ y → ρ 7 j = ι 1) ∧ ∀ k j, ¬ (k = 7 ∧ i ≤ j ∧ j ≤ y) → ρ k j = σ k j := by
  intro d
  induction d with
  | zero =>
    intro f i σ hi hf
    obtain ⟨f, rfl⟩ : ∃ k, f = k + 1 := ⟨f - 1, by omega⟩
    rw [fX6_readMissing_l101, if_pos (by rw [ι_lt (by omega) (by omega)]; omega)]
    exact ⟨_, _, rfl, fun j h1 h2 => by omega, fun _ _ _ => rfl⟩
  | succ d ih =>
    intro f i σ hi hf
    obtain ⟨f, rfl⟩ : ∃ k, f = k + 1 := ⟨f - 1, by omega⟩
    rw [fX6_readMissing_l101, if_neg (by rw [ι_lt (by omega) (by omega)]; omega), show (1 + 1) + 1 = 3 from rfl, c_sm hl (by omega), Option.bind_some, l_1, ι_add]
    obtain ⟨z, ρ, b1, b2, b3⟩ := ih f (i + 1) (up σ 7 i (ι 1)) (by omega) (by omega)
    refine ⟨z, ρ, b1, fun j h1 h2 => ?_, fun k j hk => ?_⟩
    · by_cases e : j = i
      · rw [b3 7 j (by omega), e, up_e]
      · exact b2 j (by omega) h2
    · rw [b3 k j (by omega), up_g, if_neg (by omega)]
theorem c_j99 {σ : Mem} {x y : Nat} (hl : ln (3 + 3 + 1) = 60) (hx : x ≤ y) (hy : y < 60) : ∃ ρ, fX6_readMissing_j99 1 (ι x) (ι y) σ = some (1, ρ) ∧ (∀ j, x ≤ j → j ≤ y → ρ 7 j = ι 1) ∧ ∀ k j, ¬ (k = 7 ∧ x ≤ j ∧ j ≤ y) → ρ k j = σ k j := by
  obtain ⟨z, ρ, b1, b2, b3⟩ := c_l101 hl hy (y + 1 - x) FU x σ (by omega) (by unfold FU; omega)
  refine ⟨ρ, ?_, b2, b3⟩
  unfold fX6_readMissing_j99
  rw [b1, Option.bind_some]
theorem miss_sim2 {B : Nat → Nat} {m s k n a b : Nat} {σ τ : Mem} (hB : BC B m σ) (hT : CT B m σ s) (hD : DR σ τ k n a b) (hk1 : 1 ≤ k) (hP : RP B m τ (Tk B m s)) : Out B m σ τ s (fX6_readMissing 1 σ) (fX12_readsMissing τ) := by
  have hm := hB.1
  have hs := hT.1
  obtain ⟨t1, t2, t3, t4⟩ := Tk_spec (B := B) hs
  obtain ⟨u1, u2, u3, u4⟩ := Skp_spec (B := B) t2
  have hQ := hD.1
  have hn := hQ.2.2.2
  have hn1 := QP_pos hQ hk1
  have hF := hD.2.2.1
  have ha := hF.2.1
  have hS := hF.2.2.1
  have h40 : τ 4 0 = ι a := hF.1
  have hV := hD.2.2.2.1
  have hl := hV.1.2.1
  unfold fX6_readMissing fX12_readsMissing
  rw [show (1 + 1) + 1 = 3 from rfl]
  obtain ⟨ρ1, a1, a2, a3, a4⟩ := c_nextT hB hT
  obtain ⟨g1, g2⟩ := r_leafRead (x := 0) hP rfl (by omega) hQ hD.2.1 hn1
  rw [a1, Option.bind_some, a2.2.2.2.2]
  have V1 : VR ρ1 3 (τ 2) k n a (τ 4) := VR_c hn ha hV (fun j hj => a4 _ (by omega)) (fun _ _ => rfl)
  have f1 : frQ σ ρ1 := frQ_1 a4
  generalize hs1 : Skp B m (Tk B m s) = s1 at *
  by_cases hok : ∃ v, nv B m s1 = some v ∧ v < n
  · obtain ⟨v, hv, hvn⟩ := hok
    obtain ⟨υ, b1, b2, b3, b4⟩ := g1 v hv (by omega) hvn
    have b1 : fX12_leafRead (0 : Int32) τ = some (ι v, υ) := b1
    have e4 : υ 4 = τ 4 := funext fun j => b4 4 j (by omega)
    have h40' : υ 4 0 = ι a := by rw [e4]; exact h40
    rw [b1, Option.bind_some, hv]
    show Out B m σ τ s ((fX10_hasLeaf 3 (ι v) ρ1).bind _) ((fX12_tellsMissing (ι v) υ).bind _)
    rw [c_hasLeaf hn V1 (by omega), Option.bind_some, if_pos hvn, if_neg (by decide), show oi (some v) = ι v from rfl, c_hasSlips ha V1, Option.bind_some]
    have hr := hs_range (F := τ 4) (x := v) (y := v) hn (by omega) hvn hS
    by_cases hsv : hsl (τ 4) a v = true
    · rw [if_pos (hr.mpr ⟨v, by omega, by omega, hsv⟩), if_neg (by decide), r_tm_yes b2.2.2.2 h40' ha (by omega) (by rw [e4]; exact hsv) (show s1 ≤ 600 by omega) b3, Option.bind_some, r_notf (s := s1) (up_e _ _ _ _) (by omega), Option.bind_some, if_pos (show ι 0 = (0 : Int32) from rfl)]
      refine out_no (s' := s1) f1 (frP_trans (frP_M (frL_M b4)) (fun k j hk => ?_)) (by omega) a2.2.2.1 (up_e _ _ _ _)
      rw [up_g, if_neg (by omega)]
    · rw [if_neg (show ¬ (ff (hsB (τ 4) (ι v) (ι v)) 0 a).isSome = true from fun z => by
        obtain ⟨w, w1, w2, w3⟩ := hr.mp z
        have : w = v := by omega
        rw [this] at w3; exact hsv w3), if_pos (show ι 0 = (0 : Int32) from rfl), r_tm_no b2.2.2.2 h40' ha (by omega) (by rw [e4]; exact hsv), Option.bind_some]
      have P1 : RP B m (up υ 4 (279 + v) (ι 1)) (Tk B m s1) := RP_4 b2
      have fr1 : frP τ (up υ 4 (279 + v) (ι 1)) := frP_trans (frP_M (frL_M b4)) (frP_4 _ _ _)
      obtain ⟨tt1, tt2, tt3, tt4⟩ := Tk_spec (B := B) u2
      obtain ⟨uu1, uu2, uu3, uu4⟩ := Skp_spec (B := B) tt2
      obtain ⟨ρ2, c1, c2, c3, c4⟩ := c_nextT a3 a2
      have V2 : VR ρ2 3 (τ 2) k n a (τ 4) := VR_c hn ha V1 (fun j hj => c4 _ (by omega)) (fun _ _ => rfl)
      have f2 : frQ σ ρ2 := frQ_trans f1 (frQ_1 c4)
      have hD2 : DR ρ2 τ k n a b := DR_c hD (fun j h1 h2 => by rw [c4 j (by omega), a4 j (by omega)]) rfl rfl rfl
      obtain ⟨υ2, d1, d2, d3, d4⟩ := r_look P1.1 P1.2.1 P1.2.2.1
      rw [c1, Option.bind_some, r_fine P1.2.2.2, Option.bind_some, if_neg (show ¬ ι 1 = (0 : Int32) by decide), d1, Option.bind_some, c2.2.1, c2.2.2.2.2]
      have hkl := Kd_lt B m (Skp B m (Tk B m s1))
      have hss : Skp B m (Skp B m (Tk B m s1)) = Skp B m (Tk B m s1) := Skp_idem tt2
      generalize hs2 : Skp B m (Tk B m s1) = s2 at *
      have P2 : RP B m υ2 s2 := ⟨frM_BR (frL_M d4) P1.1, uu2, d2, (d4 0 15 (by omega)).trans P1.2.2.2⟩
      have fr2 : frP τ υ2 := frP_trans fr1 (frP_M (frL_M d4))
      have E2 : υ2 2 = τ 2 := funext fun j => by rw [d4 2 j (by omega), up_k _ _ _ _ _ (by omega), b4 2 j (by omega)]
      have E04 : υ2 0 4 = τ 0 4 := by rw [d4 0 4 (by omega), up_k _ _ _ _ _ (by omega), b4 0 4 (by omega)]
      have E4 : ∀ j, υ2 4 j = if j = 279 + v then ι 1 else τ 4 j := fun j => by
        rw [d4 4 j (by omega)]
        by_cases e : j = 279 + v
        · rw [if_pos e, e, up_e]
        · rw [if_neg e, up_j _ _ _ _ _ e, e4]
      show Out B m σ τ s _ ((fX12_isDigit (bv B m s2) υ2).bind fun v22 => if v22 = 0 then (some υ2) else ((fX12_leafRead (ι v) υ2).bind fun v31 => (fX12_readsMissing_l39 v31.1 FU (ι v + (1 : Int32)) v31.2).bind fun q39 => some q39.2))
      rw [r_isDigit (fun z => (P2.1.2.2 s2 z).1), Option.bind_some]
      by_cases k2 : Kd B m s2 = 2
      · rw [if_pos k2, if_neg (show ¬ ι 1 = (0 : Int32) by decide), if_pos (show ι (Kd B m s2) = (2 : Int32) by rw [k2]; rfl)]
        obtain ⟨j1, j2⟩ := r_leafRead (x := v) P2 hss (by omega) (k := k) (n := n) (by rw [E2]; exact hQ) (by rw [E04]; exact hD.2.1) hn1
        by_cases hok2 : ∃ w, nv B m s2 = some w ∧ v ≤ w ∧ w < n
        · obtain ⟨w, hw, hvw, hwn⟩ := hok2
          have wlt := nv_lt uu2 hw
          have vl := nv_lt u2 hv
          obtain ⟨υ3, o1, o2, o3, o4⟩ := j1 w hw hvw hwn
          have F4 : υ3 4 = υ2 4 := funext fun j => o4 4 j (by omega)
          have h403 : υ3 4 0 = ι a := by rw [F4, E4, if_neg (by omega)]; exact h40
          have hslc : ∀ x, hsl (υ3 4) a x = hsl (τ 4) a x := fun x => hsl_c ha (fun j q1 q2 => by rw [F4, E4, if_neg (by omega)])
          rw [o1, Option.bind_some, hw]
          show Out B m σ τ s ((fX10_hasLeaf 3 (ι w) ρ2).bind _) ((fX12_readsMissing_l39 (ι w) FU (ι v + (1 : Int32)) υ3).bind fun q39 => some q39.2)
          rw [c_hasLeaf hn V2 (by omega), Option.bind_some, if_pos hwn, if_neg (by decide), show oi (some w) = ι w from rfl, if_neg (show ¬ ι w < ι v by rw [ι_lt (by omega) (by omega)]; omega), c_hasSlips ha V2, Option.bind_some, l_1, ι_add]
          have hr2 := hs_range (F := τ 4) (x := v) (y := w) hn (by omega) hwn hS
          by_cases hsw : ∃ x, v ≤ x ∧ x ≤ w ∧ hsl (τ 4) a x = true
          · rw [if_pos (hr2.mpr hsw), if_neg (by decide)]
            obtain ⟨x, x1, x2, x3⟩ := hsw
            have hxv : x ≠ v := fun z => hsv (by rw [← z]; exact x3)
            obtain ⟨z, ω, q1, q2, q3⟩ := r_l39_no (s := s2) ha (show w < 60 by omega) (by omega) (w + 1 - (v + 1)) FU (v + 1) υ3 (by omega) (by unfold FU; omega) o2.2.2.2 o3 h403 ⟨x, by omega, x2, by rw [hslc]; exact x3⟩
            rw [q1, Option.bind_some]
            exact out_no (s' := s2) f2 (frP_trans fr2 (frP_trans (frP_M (frL_M o4)) q3)) (by omega) c2.2.2.1 q2
          · rw [if_neg (fun z => hsw (hr2.mp z)), if_pos (show ι 0 = (0 : Int32) from rfl)]
            obtain ⟨z, ω, q1, q2, q3⟩ := r_l39_ok ha (show w < 60 by omega) (w + 1 - (v + 1)) FU (v + 1) υ3 (by omega) (by unfold FU; omega) o2.2.2.2 h403 (fun x x1 x2 x3 => hsw ⟨x, by omega, x2, by rw [← hslc]; exact x3⟩)
            obtain ⟨ρ3, m1, m2, m3, m4⟩ := c_nextT c3 c2
            obtain ⟨ρ4, n1, n2, n3⟩ := c_j99 (σ := ρ3) hl hvw (show w < 60 by omega)
            rw [q1, Option.bind_some, m1, Option.bind_some, n1]
            have f4 : frQ σ ρ4 := frQ_trans f2 (frQ_trans (frQ_1 m4) (fun j hj => funext fun i => n3 j i (by omega)))
            have hw' := Tk_spec (B := B) uu2
            have hx' := Skp_spec (B := B) hw'.2.1
            have hDD : DR ρ4 ω k n a b := by
              refine gone_DR (x := v) (y := w) hD2 hwn ?_ ?_ (fun j h1 h2 => ?_) (fun j hj => ?_) n2 (fun j hj => ?_) (fun j h1 h2 h3 => ?_)
              · refine funext fun j => ?_
                rw [q3 2 j (by omega), o4 2 j (by omega), E2]
              · rw [q3 0 4 (by omega), o4 0 4 (by omega), E04]
              · by_cases e : j = v
                · rw [q3 4 (279 + j) (by omega), F4, E4, if_pos (by omega)]
                · exact q2 j (by omega) h2
              · rw [q3 4 j (by omega), F4, E4, if_neg (by omega)]
              · rw [n3 7 j (by omega), m4 7 (by omega)]
              · rw [← m4 j (by omega)]; exact funext fun i => n3 j i (by omega)
            refine out_yes (s' := Skp B m (Tk B m s2)) (p' := Tk B m s2) f4 (frP_trans fr2 (frP_trans (frP_M (frL_M o4)) (fun k j hk => q3 k j (by omega)))) hk1 hDD (CT_c m2 (funext fun i => n3 1 i (by omega))) ⟨BR_c o2.1 (q3 0 12 (by omega)) (funext fun j => q3 7 j (by omega)), hw'.2.1, (q3 0 13 (by omega)).trans o2.2.2.1, (q3 0 15 (by omega)).trans o2.2.2.2⟩ rfl (by omega)
        · have hno2 : ∀ w, nv B m s2 = some w → ¬ (v ≤ w ∧ w < n) := fun w hw z => hok2 ⟨w, hw, z.1, z.2⟩
          obtain ⟨υ3, o1, o2, o3⟩ := j2 hno2
          have vl := nv_lt u2 hv
          rw [o1, Option.bind_some]
          have hl39 : ∃ z, fX12_readsMissing_l39 (ι v) FU (ι v + (1 : Int32)) υ3 = some (z, υ3) := by
            rw [show FU = 4095 + 1 from rfl, fX12_readsMissing_l39, if_pos (by rw [l_1, ι_add, ι_lt (by omega) (by omega)]; omega)]
            exact ⟨_, rfl⟩
          obtain ⟨z, hz⟩ := hl39
          show Out B m σ τ s _ ((fX12_readsMissing_l39 (ι v) FU (ι v + (1 : Int32)) υ3).bind fun q39 => some q39.2)
          rw [hz, Option.bind_some]
          have hend := out_no (B := B) (m := m) (σ := σ) (τ := τ) (s := s) (s' := s2) f2 (frP_trans fr2 (frP_M o3)) (by omega) c2.2.2.1 o2.2.2.1
          cases hw : nv B m s2 with
          | none =>
            show Out B m σ τ s ((fX10_hasLeaf 3 μ ρ2).bind _) _
            rw [c_hasLeaf_neg (by decide), Option.bind_some, if_pos (show ι 0 = (0 : Int32) from rfl)]
            exact hend
          | some w =>
            have wlt := nv_lt uu2 hw
            show Out B m σ τ s ((fX10_hasLeaf 3 (ι w) ρ2).bind _) _
            rw [c_hasLeaf hn V2 (by omega), Option.bind_some]
            by_cases hwn : w < n
            · rw [if_pos hwn, if_neg (by decide), show oi (some w) = ι w from rfl, if_pos (show ι w < ι v by rw [ι_lt (by omega) (by omega)]; exact Nat.lt_of_not_le fun z => hno2 w hw ⟨z, hwn⟩)]
              exact hend
            · rw [if_neg hwn, if_pos (show ι 0 = (0 : Int32) from rfl)]
              exact hend
      · rw [if_neg k2, if_pos (show ι 0 = (0 : Int32) from rfl), if_neg (show ¬ ι (Kd B m s2) = (2 : Int32) by rw [l_2, ι_eq (by omega) (by omega)]; exact k2)]
        obtain ⟨ρ3, n1, n2, n3⟩ := c_j99 (σ := ρ2) hl (Nat.le_refl v) (show v < 60 by omega)
        rw [n1]
        have hDD : DR ρ3 υ2 k n a b := by
          refine gone_DR (x := v) (y := v) hD2 hvn E2 E04 (fun j h1 h2 => ?_) (fun j hj => ?_) n2 (fun j hj => n3 7 j (by omega)) (fun j h1 h2 h3 => funext fun i => n3 j i (by omega))
          · rw [E4, if_pos (by omega)]
          · rw [E4, if_neg (by omega)]
        exact out_yes (s' := s2) (p' := s2) (frQ_trans f2 (fun j hj => funext fun i => n3 j i (by omega))) fr2 hk1 hDD (CT_c c2 (funext fun i => n3 1 i (by omega))) P2 hss (by omega)
  · have hno : ∀ v, nv B m s1 = some v → ¬ (0 ≤ v ∧ v < n) := fun v hv z => hok ⟨v, hv, z.2⟩
    obtain ⟨υ, b1, b2, b3⟩ := g2 hno
    have b1 : fX12_leafRead (0 : Int32) τ = some (ι 0, υ) := b1
    rw [c_hlN u2 hn V1 (fun v hv z => hok ⟨v, hv, z⟩), b1, Option.bind_some, Option.bind_some, if_pos (show ι 0 = (0 : Int32) from rfl)]
    show Out B m σ τ s _ ((fX12_tellsMissing (ι 0) υ).bind _)
    rw [bad_tm b2, Option.bind_some, r_notf b2.2.2.1 b2.2.1, Option.bind_some, if_pos (show ι 0 = (0 : Int32) from rfl)]
    exact out_no (s' := s1) f1 (frP_M b3) (by omega) a2.2.2.1 b2.2.2.1

/-! PURE PART: the setup text as a whole -/
theorem out_pre {B : Nat → Nat} {m s : Nat} {σ τ υ : Mem} {c : Option (Int32 × Mem)} {r : Option Mem} (h : frP τ υ) (ho : Out B m σ υ s c r) : Out B m σ τ s c r := by
  obtain ⟨x, ρ, ω, h1, h2, h3, h4, h5⟩ := ho
  exact ⟨x, ρ, ω, h1, h2, h3, frP_trans h h4, h5⟩
theorem out_w1 {B : Nat → Nat} {m s : Nat} {σ τ : Mem} {c : Option (Int32 × Mem)} {r : Option Mem} (ho : Out B m σ τ s c r) : Out B m σ τ s (c.bind fun v => if v.1 = 0 ∨ v.1 = 1 then some (v.1, v.2) else none) (r.bind fun v => some v) := by
  obtain ⟨x, ρ, ω, h1, h2, h3, h4, h5⟩ := ho
  rw [h1, h2, Option.bind_some, Option.bind_some]
  have hx : x = 0 ∨ x = 1 := by
    rcases h5 with z | z
    · exact Or.inr z.1
    · exact Or.inl z.1
  have e : (if ((x, ρ) : Int32 × Mem).1 = 0 ∨ ((x, ρ) : Int32 × Mem).1 = 1 then some (((x, ρ) : Int32 × Mem).1, ((x, ρ) : Int32 × Mem).2) else none) = some (x, ρ) := if_pos hx
  rw [e]
  exact ⟨x, ρ, ω, rfl, rfl, h3, h4, h5⟩
theorem out_w2 {B : Nat → Nat} {m s : Nat} {σ τ : Mem} {c : Option (Int32 × Mem)} {r : Option Mem} (ho : Out B m σ τ s c r) : Out B m σ τ s (c.bind fun v => if v.1 = 0 then some (0, v.2) else some (1, v.2)) (r.bind fun v => some v) := by
  obtain ⟨x, ρ, ω, h1, h2, h3, h4, h5⟩ := ho
  rw [h1, h2, Option.bind_some, Option.bind_some]
  have e : (if ((x, ρ) : Int32 × Mem).1 = 0 then some ((0 : Int32), ((x, ρ) : Int32 × Mem).2) else some ((1 : Int32), ((x, ρ) : Int32 × Mem).2)) = some (x, ρ) := by
    rcases h5 with z | z
    · rw [z.1]; exact if_neg (by decide : ¬ (1 : Int32) = 0)
    · rw [z.1]; exact if_pos rfl
  rw [e]
  exact ⟨x, ρ, ω, rfl, rfl, h3, h4, h5⟩
theorem stmt_sim {B : Nat → Nat} {m s p k n a b : Nat} {σ τ : Mem} {x : Int32} (hB : BC B m σ) (hT : CT B m σ s) (hD : DR σ τ k n a b) (hP : RP B m τ p) (hs : Skp B m p = s) (hx : (x = 1 ∧ k = 0) ∨ (x = 0 ∧ 1 ≤ k)) : Out B m σ τ s (fX6_readStatement 1 σ) (fX12_readsStatement x τ) := by
  have hm := hB.1
  have s2 := (Skp_spec (B := B) hP.2.1).2.1
  rw [hs] at s2
  have hss : Skp B m s = s := by rw [← hs]; exact Skp_idem hP.2.1
  have hk := hD.1.1
  obtain ⟨υ0, a1, a2, a3, a4⟩ := r_look hP.1 hP.2.1 hP.2.2.1
  rw [hs] at a1 a2 a3
  have P0 : RP B m υ0 s := ⟨frM_BR (frL_M a4) hP.1, s2, a2, (a4 0 15 (by omega)).trans hP.2.2.2⟩
  obtain ⟨υ1, b1, b2, b3, b4⟩ := r_takes (w := 10) P0 hss (wl_ok 10 (by omega)).1 (wl_ok 10 (by omega)).2
  rw [isW_10] at b1 b2
  have fr1 : frL τ υ1 := frL_trans a4 b4
  unfold fX6_readStatement fX12_readsStatement
  rw [c_isWord hB hT (wl_ok 0 (by omega)).2, Option.bind_some, a1, Option.bind_some]
  show Out B m σ τ s _ ((fX12_takes 10 υ0).bind fun v13 => if v13.1 = 0 then (if x = 0 then ((fX12_takes 11 v13.2).bind fun v42 => if v42.1 = 0 then ((fX12_takes 12 v42.2).bind fun v58 => if v58.1 = 0 then ((fX12_takes 15 v58.2).bind fun v75 => if v75.1 = 0 then ((fX12_wrongAt (υ0 0 14) v75.2).bind fun v91 => some v91) else ((fX12_readsLabel (υ0 0 14) v75.2).bind fun v83 => some v83)) else ((fX12_readsSlip (υ0 0 14) v58.2).bind fun v66 => some v66)) else ((fX12_readsMissing v42.2).bind fun v49 => some v49)) else ((fX12_wrongAt (υ0 0 14) v13.2).bind fun v33 => some v33)) else ((fX12_readsQuire (υ0 0 14) v13.2).bind fun v21 => some v21))
  rw [a3, b1, Option.bind_some]
  have no1 : ∀ (ω : Mem), RP B m ω s → frL τ ω → Out B m σ τ s (some (0, σ)) ((fX12_wrongAt (ι s) ω).bind fun v => some v) := fun ω Q f => by
    rw [r_wrong Q.2.2.2, Option.bind_some]
    exact out_no (s' := s) (fun _ _ => rfl) (frP_trans (frP_M (frL_M f)) (fun k j hk => by rw [up_g, if_neg (by omega)])) (by omega) hT.2.2.1 (up_e _ _ _ _)
  by_cases w0 : isW B m 0 s = true
  · rw [if_pos w0] at b2
    rw [if_pos w0, if_neg (show ¬ ι 1 = (0 : Int32) by decide), if_neg (show ¬ ((ι 1, υ1) : Int32 × Mem).1 = 0 from (by decide : ¬ ι 1 = (0 : Int32)))]
    exact out_w1 (out_pre (frP_M (frL_M fr1)) (quire_sim hB hT (DR_1 hD (fun _ _ => rfl) (frL_M fr1)) b2))
  · rw [if_neg w0] at b2
    rw [if_neg w0, if_pos (show ι 0 = (0 : Int32) from rfl), if_pos (show ((ι 0, υ1) : Int32 × Mem).1 = 0 from rfl)]
    unfold fX10_quireCount
    rw [Option.bind_some, show (1 + 1) + 1 = 3 from rfl, hD.2.2.2.1.2.1]
    rcases hx with ⟨hx1, hk0⟩ | ⟨hx0, hk1⟩
    · rw [if_pos (show ι k = (0 : Int32) by rw [hk0]; rfl), if_neg (show ¬ x = 0 by rw [hx1]; decide)]
      exact no1 υ1 b2 fr1
    · rw [if_neg (show ¬ ι k = (0 : Int32) by rw [l_0, ι_eq (by omega) (by omega)]; omega), if_pos hx0, c_isWord hB hT (wl_ok 1 (by omega)).2, Option.bind_some]
      obtain ⟨υ2, c1, c2, c3, c4⟩ := r_takes (w := 11) b2 hss (wl_ok 11 (by omega)).1 (wl_ok 11 (by omega)).2
      rw [isW_11] at c1 c2
      have fr2 : frL τ υ2 := frL_trans fr1 c4
      show Out B m σ τ s _ ((fX12_takes 11 υ1).bind _)
      rw [c1, Option.bind_some]
      by_cases w1 : isW B m 1 s = true
      · rw [if_pos w1] at c2
        rw [if_pos w1, if_neg (show ¬ ι 1 = (0 : Int32) by decide), if_neg (show ¬ ((ι 1, υ2) : Int32 × Mem).1 = 0 from (by decide : ¬ ι 1 = (0 : Int32)))]
        exact out_w1 (out_pre (frP_M (frL_M fr2)) (miss_sim2 hB hT (DR_1 hD (fun _ _ => rfl) (frL_M fr2)) hk1 c2))
      · rw [if_neg w1] at c2
        rw [if_neg w1, if_pos (show ι 0 = (0 : Int32) from rfl), if_pos (show ((ι 0, υ2) : Int32 × Mem).1 = 0 from rfl), c_isWord hB hT (wl_ok 2 (by omega)).2, Option.bind_some]
        obtain ⟨υ3, d1, d2, d3, d4⟩ := r_takes (w := 12) c2 hss (wl_ok 12 (by omega)).1 (wl_ok 12 (by omega)).2
        rw [isW_12] at d1 d2
        have fr3 : frL τ υ3 := frL_trans fr2 d4
        show Out B m σ τ s _ ((fX12_takes 12 υ2).bind _)
        rw [d1, Option.bind_some]
        by_cases w2 : isW B m 2 s = true
        · rw [if_pos w2] at d2
          rw [if_pos w2, if_neg (show ¬ ι 1 = (0 : Int32) by decide), if_neg (show ¬ ((ι 1, υ3) : Int32 × Mem).1 = 0 from (by decide : ¬ ι 1 = (0 : Int32)))]
          exact out_w1 (out_pre (frP_M (frL_M fr3)) (slip_sim hB hT (DR_1 hD (fun _ _ => rfl) (frL_M fr3)) hk1 d2))
        · rw [if_neg w2] at d2
          rw [if_neg w2, if_pos (show ι 0 = (0 : Int32) from rfl), if_pos (show ((ι 0, υ3) : Int32 × Mem).1 = 0 from rfl), c_isWord hB hT (wl_ok 5 (by omega)).2, Option.bind_some]
          obtain ⟨υ4, e1, e2, e3, e4⟩ := r_takes (w := 15) d2 hss (wl_ok 15 (by omega)).1 (wl_ok 15 (by omega)).2
          rw [isW_15] at e1 e2
          have fr4 : frL τ υ4 := frL_trans fr3 e4
          show Out B m σ τ s _ ((fX12_takes 15 υ3).bind _)
          rw [e1, Option.bind_some]
          by_cases w5 : isW B m 5 s = true
          · rw [if_pos w5] at e2
            rw [if_pos w5, if_neg (show ¬ ι 1 = (0 : Int32) by decide), if_neg (show ¬ ((ι 1, υ4) : Int32 × Mem).1 = 0 from (by decide : ¬ ι 1 = (0 : Int32)))]
            exact out_w2 (out_pre (frP_M (frL_M fr4)) (label_sim hB hT (DR_1 hD (fun _ _ => rfl) (frL_M fr4)) hk1 e2))
          · rw [if_neg w5] at e2
            rw [if_neg w5, if_pos (show ι 0 = (0 : Int32) from rfl), if_pos (show ((ι 0, υ4) : Int32 × Mem).1 = 0 from rfl)]
            exact no1 υ4 e2 fr4
theorem c_semi {B : Nat → Nat} {m s : Nat} {σ : Mem} (hB : BC B m σ) (hT : CT B m σ s) (h : s < m ∧ B s = 59) : fX6_isSemicolon 1 σ = some 1 := by
  have hm := hB.1
  have hk : Kd B m s = 3 := by unfold Kd; rw [if_neg (by omega), if_neg (by omega), if_neg (by omega)]
  unfold fX6_isSemicolon
  rw [hT.2.1, if_pos (show ι (Kd B m s) = (3 : Int32) by rw [hk]; rfl), show 1 + 32 = 33 from rfl, hT.2.2.1, c_byte hB (by omega), Option.bind_some]
  unfold bv
  rw [if_neg (by omega), h.2, if_pos (show ι 59 = (59 : Int32) from rfl)]
theorem c_semi_no {B : Nat → Nat} {m s : Nat} {σ : Mem} (hB : BC B m σ) (hT : CT B m σ s) (h : ¬ (s < m ∧ B s = 59)) : fX6_isSemicolon 1 σ = some 0 := by
  have hm := hB.1
  have hs := hT.1
  unfold fX6_isSemicolon
  rw [show 1 + 32 = 33 from rfl, hT.2.2.1, c_byte hB (by omega), Option.bind_some]
  have hb : ¬ bv B m s = (59 : Int32) := by
    unfold bv
    by_cases c : m ≤ s
    · rw [if_pos c]; decide
    · have hb := (hB.2.2 s (by omega)).1
      rw [if_neg c, l_59, ι_eq (by omega) (by omega)]; omega
  rw [if_neg hb]
  split <;> rfl
theorem bv_semi {B : Nat → Nat} {m s : Nat} {τ : Mem} (hB : BR B m τ) : (bv B m s = (59 : Int32)) = (s < m ∧ B s = 59) := by
  have hm := hB.1
  unfold bv
  by_cases c : m ≤ s
  · rw [if_pos c]; exact propext ⟨fun z => absurd z (by decide), fun z => by omega⟩
  · have hb := (hB.2.2 s (by omega)).1
    rw [if_neg c, l_59, ι_eq (by omega) (by omega)]
    exact propext ⟨fun z => ⟨by omega, z⟩, fun z => z.2⟩
def Fin (B : Nat → Nat) (m : Nat) (ρ υ : Mem) (x : Int32) : Prop := (x = 1 ∧ ∃ k n a b s' p', 1 ≤ k ∧ DR ρ υ k n a b ∧ CT B m ρ s' ∧ RP B m υ p' ∧ Skp B m p' = s') ∨ (x = 0 ∧ ∃ s', s' ≤ 600 ∧ ρ 1 3 = ι s' ∧ υ 0 15 = ι s')
theorem text_l {B : Nat → Nat} {m : Nat} : ∀ d n1 n2 i s p k n a b (σ τ : Mem), m - s ≤ d → d < n1 → d < n2 → BC B m σ → CT B m σ s → DR σ τ k n a b → 1 ≤ k → RP B m τ p → Skp B m p = s → i ≤ s → ∃ x z ρ υ, fX6_firstError_l23 1 n1 1 (ι i) σ = some (x, z, ρ) ∧ fX12_readsText_l42 n2 τ = some υ ∧ frQ σ ρ ∧ frP τ υ ∧ Fin B m ρ υ x := by
  intro d
  induction d with
  | zero =>
    intro n1 n2 i s p k n a b σ τ hd h1 h2 hB hT hD hk hP hs hi
    obtain ⟨n1, rfl⟩ : ∃ k, n1 = k + 1 := ⟨n1 - 1, by omega⟩
    obtain ⟨n2, rfl⟩ : ∃ k, n2 = k + 1 := ⟨n2 - 1, by omega⟩
    have hm := hB.1
    have hsm := hT.1
    have hss : Skp B m s = s := by rw [← hs]; exact Skp_idem hP.2.1
    obtain ⟨υ0, a1, a2, a3, a4⟩ := r_look hP.1 hP.2.1 hP.2.2.1
    rw [hs] at a1 a2 a3
    have P0 : RP B m υ0 s := ⟨frM_BR (frL_M a4) hP.1, hsm, a2, (a4 0 15 (by omega)).trans hP.2.2.2⟩
    have hno : ¬ (s < m ∧ B s = 59) := by omega
    refine ⟨1, ι i, σ, υ0, ?_, ?_, fun _ _ => rfl, frP_M (frL_M a4), Or.inl ⟨rfl, k, n, a, b, s, s, hk, DR_1 hD (fun _ _ => rfl) (frL_M a4), hT, P0, hss⟩⟩
    · rw [fX6_firstError_l23]
      unfold fX8_size
      rw [Option.bind_some, if_neg (show ¬ (1 : Int32) = 0 by decide), c_semi_no hB hT hno, Option.bind_some, if_pos rfl]
      split <;> rfl
    · rw [fX12_readsText_l42, r_fine hP.2.2.2, Option.bind_some, if_neg (by decide), a1, Option.bind_some]
      exact if_neg (show ¬ bv B m s = (59 : Int32) by rw [bv_semi hP.1]; exact hno)
  | succ d ih =>
    intro n1 n2 i s p k n a b σ τ hd h1 h2 hB hT hD hk hP hs hi
    obtain ⟨n1, rfl⟩ : ∃ k, n1 = k + 1 := ⟨n1 - 1, by omega⟩
    obtain ⟨n2, rfl⟩ : ∃ k, n2 = k + 1 := ⟨n2 - 1, by omega⟩
    have hm := hB.1
    have hsm := hT.1
    have hss : Skp B m s = s := by rw [← hs]; exact Skp_idem hP.2.1
    obtain ⟨υ0, a1, a2, a3, a4⟩ := r_look hP.1 hP.2.1 hP.2.2.1
    rw [hs] at a1 a2 a3
    have P0 : RP B m υ0 s := ⟨frM_BR (frL_M a4) hP.1, hsm, a2, (a4 0 15 (by omega)).trans hP.2.2.2⟩
    by_cases hse : s < m ∧ B s = 59
    · have hk3 : Kd B m s = 3 := by unfold Kd; rw [if_neg (by omega), if_neg (by omega), if_neg (by omega)]
      have ht : Tk B m s = s + 1 := by unfold Tk; rw [if_pos hk3]
      obtain ⟨ρ1, b1, b2, b3, b4⟩ := c_nextT hB hT
      rw [ht] at b2
      have u := Skp_spec (B := B) (show s + 1 ≤ m by omega)
      have P1 : RP B m (up υ0 0 13 (ι (s + 1))) (s + 1) := ⟨BR_c P0.1 (up_j _ _ _ _ _ (by omega)) (up_k _ _ _ _ _ (by omega)), by omega, up_e _ _ _ _, by rw [up_j _ _ _ _ _ (by omega)]; exact P0.2.2.2⟩
      have fr1 : frM τ (up υ0 0 13 (ι (s + 1))) := fun k j hk => by rw [up_g, if_neg (by omega)]; exact a4 k j (by omega)
      obtain ⟨x, ρ, υ, c1, c2, c3, c4, c5⟩ := stmt_sim (x := 0) b3 b2 (DR_1 hD b4 fr1) P1 rfl (Or.inr ⟨rfl, hk⟩)
      have e1 : fX6_firstError_l23 1 (n1 + 1) 1 (ι i) σ = fX6_firstError_l23 1 n1 x (ι (i + 1)) ρ := by
        rw [fX6_firstError_l23]
        unfold fX8_size
        rw [Option.bind_some, show 1 + 32 = 33 from rfl, hB.2.1, if_neg (by rw [ι_le (by omega) (by omega)]; omega), if_neg (show ¬ (1 : Int32) = 0 by decide), c_semi hB hT hse, Option.bind_some, if_neg (by decide), b1, Option.bind_some, c1, Option.bind_some, l_1, ι_add]
      have e2 : fX12_readsText_l42 (n2 + 1) τ = fX12_readsText_l42 n2 υ := by
        rw [fX12_readsText_l42, r_fine hP.2.2.2, Option.bind_some, if_neg (by decide), a1, Option.bind_some]
        refine (if_pos (show bv B m s = (59 : Int32) by rw [bv_semi hP.1]; exact hse)).trans ?_
        show (fX12_readsStatement (0 : Int32) (up υ0 0 13 (υ0 0 13 + (1 : Int32)))).bind _ = _
        rw [a2, l_1, ι_add, c2, Option.bind_some]
      rw [e1, e2]
      rcases c5 with ⟨rfl, k', n', a', b', s', p', g1, g2, g3, g4, g5, g6⟩ | ⟨rfl, s', g1, g2, g3⟩
      · obtain ⟨x, z, ρ', υ', q1, q2, q3, q4, q5⟩ := ih n1 n2 (i + 1) s' p' k' n' a' b' ρ υ (by omega) (by omega) (by omega) (frQ_BC c3 b3) g3 g2 g1 g4 g5 (by omega)
        exact ⟨x, z, ρ', υ', q1, q2, frQ_trans (frQ_1 b4) (frQ_trans c3 q3), frP_trans (frP_M fr1) (frP_trans c4 q4), q5⟩
      · obtain ⟨n1, rfl⟩ : ∃ k, n1 = k + 1 := ⟨n1 - 1, by omega⟩
        obtain ⟨n2, rfl⟩ : ∃ k, n2 = k + 1 := ⟨n2 - 1, by omega⟩
        refine ⟨0, ι (i + 1), ρ, υ, ?_, ?_, frQ_trans (frQ_1 b4) c3, frP_trans (frP_M fr1) c4, Or.inr ⟨rfl, s', g1, g2, g3⟩⟩
        · rw [fX6_firstError_l23]
          unfold fX8_size
          rw [Option.bind_some, if_pos (show (0 : Int32) = 0 from rfl)]
          split <;> rfl
        · rw [fX12_readsText_l42, r_notf g3 g1, Option.bind_some, if_pos (show ι 0 = (0 : Int32) from rfl)]
    · refine ⟨1, ι i, σ, υ0, ?_, ?_, fun _ _ => rfl, frP_M (frL_M a4), Or.inl ⟨rfl, k, n, a, b, s, s, hk, DR_1 hD (fun _ _ => rfl) (frL_M a4), hT, P0, hss⟩⟩
      · rw [fX6_firstError_l23]
        unfold fX8_size
        rw [Option.bind_some, if_neg (show ¬ (1 : Int32) = 0 by decide), c_semi_no hB hT hse, Option.bind_some, if_pos rfl]
        split <;> rfl
      · rw [fX12_readsText_l42, r_fine hP.2.2.2, Option.bind_some, if_neg (by decide), a1, Option.bind_some]
        exact if_neg (show ¬ bv B m s = (59 : Int32) by rw [bv_semi hP.1]; exact hse)
theorem r_zero : ∀ d f i (τ : Mem), i + d = 339 → d < f → ∃ z υ, fX12_readsText_l17 f (ι i) τ = some (z, υ) ∧ (∀ j, i ≤ j → j < 339 → υ 4 j = ι 0) ∧ ∀ k j, ¬ (k = 4 ∧ i ≤ j ∧ j < 339) → υ k j = τ k j := by
  intro d
  induction d with
  | zero =>
    intro f i τ hi hf
    obtain ⟨f, rfl⟩ : ∃ k, f = k + 1 := ⟨f - 1, by omega⟩
    rw [fX12_readsText_l17, if_pos (by rw [l_339, ι_le (by omega) (by omega)]; omega)]
    exact ⟨_, _, rfl, fun j h1 h2 => by omega, fun _ _ _ => rfl⟩
  | succ d ih =>
    intro f i τ hi hf
    obtain ⟨f, rfl⟩ : ∃ k, f = k + 1 := ⟨f - 1, by omega⟩
    have hfn : ¬ (ι i < (0 : Int32) ∨ lm 4 ≤ (ι i).toNatClampNeg) := by simp (disch := omega) only [l_0, l_1, l_2, l_3, l_4, l_5, l_6, l_7, l_8, l_9, l_10, l_12, l_13, l_24, l_31, l_32, l_40, l_41, l_42, l_44, l_45, l_48, l_49, l_50, l_57, l_59, l_60, l_65, l_88, l_89, l_97, l_98, l_99, l_100, l_105, l_108, l_109, l_114, l_118, l_120, l_122, l_144, l_255, l_269, l_279, l_339, l_400, l_600, l_999, l_1000, l_2373, l_2712, ι_lt, ι_le, ι_eq, ι_add, ι_mul, ι_sub, ι_div, ι_n, ι_m1, m1_ι, m1_lt, m1_le, lt_m1, le_m1, m1_lt_m1, m1_le_m1, m1_add1, neg_ι1, ι_addm, ι_addn, Bool.false_eq_true, Nat.not_lt_zero, Nat.add_zero, Nat.zero_add, Nat.mul_zero, Nat.reduceMul, Nat.reduceAdd, Nat.reduceSub, Nat.reduceLT, Nat.reduceLeDiff, Nat.reduceEqDiff, Nat.reduceDiv, Nat.reduceBEq, Nat.reduceBNe, false_or, or_false, true_or, or_true, and_true, true_and, false_and, and_false, not_false_eq_true, not_true_eq_false, if_true, if_false, if_pos, if_neg, Option.bind_some, ite_false, ite_true, eq_self, reduceIte, lm_0, lm_1, lm_2, lm_3, lm_4, lm_5, lm_6, lm_7, lm_8, lm_9, lm_10, lm_11, lm_12, lm_13, lm_14, lm_15, lm_16, lm_17]; omega
    rw [fX12_readsText_l17, if_neg (by rw [l_339, ι_le (by omega) (by omega)]; omega), if_neg hfn, ι_n (by omega), l_1, ι_add]
    obtain ⟨z, υ, b1, b2, b3⟩ := ih f (i + 1) (up τ 4 i (0 : Int32)) (by omega) (by omega)
    refine ⟨z, υ, b1, fun j h1 h2 => ?_, fun k j hk => ?_⟩
    · by_cases e : j = i
      · rw [b3 4 j (by omega), e, up_e]; rfl
      · exact b2 j (by omega) h2
    · rw [b3 k j (by omega), up_g, if_neg (by omega)]
theorem text_sim {B : Nat → Nat} {m : Nat} {σ τ : Mem} (hB : BC B m σ) (hR : BR B m τ) : ∃ v ρ υ, fX6_firstError 1 σ = some (v, ρ) ∧ fX12_readsText τ = some (v, υ) ∧ frQ σ ρ ∧ frP τ υ ∧ ((v = μ ∧ ∃ k n a b, 1 ≤ k ∧ DR ρ υ k n a b) ∨ ∃ s, s ≤ 600 ∧ v = ι s) := by
  have hm := hB.1
  -- the class begins
  have hcl : ∃ σ1, fX7_clear 2 σ = some σ1 ∧ σ1 3 5 = ι 0 ∧ σ1 3 6 = ι 0 ∧ σ1 3 7 = ι 0 ∧ σ1 14 4 = ι 0 ∧ σ1 23 3 = ι 0 ∧ σ1 30 1 = ι 0 ∧ σ1 30 2 = ι 0 ∧ frQ σ σ1 := by
    refine ⟨_, (by unfold fX7_clear fX10_clear fX1_clear fX5_clear fX9_reset; simp only [Option.bind_some]; rfl), ?_, ?_, ?_, ?_, ?_, ?_, ?_, fun j hj => ?_⟩
    all_goals (simp (disch := omega) only [up_e, up_j, up_k, Nat.reduceAdd])
    all_goals rfl
  obtain ⟨σ1, k1, k2, k3, k4, k5, k6, k7, k8, k9⟩ := hcl
  have f2 : frQ σ (up σ1 1 4 (0 : Int32)) := fun j hj => by rw [up_k _ _ _ _ _ (by omega)]; exact k9 j hj
  have hB2 := frQ_BC f2 hB
  obtain ⟨σ3, n1, n2, n3⟩ := c_next (e := 0) hB2 (up_e _ _ _ _) (by omega)
  have f3 : frQ σ σ3 := frQ_trans f2 (frQ_1 n3)
  have hB3 := frQ_BC f3 hB
  have g : ∀ j, 2 ≤ j → σ3 j = σ1 j := fun j hj => by rw [n3 j (by omega), up_k _ _ _ _ _ (by omega)]
  -- the reference begins
  obtain ⟨z, τ1, r1, r2, r3⟩ := r_zero 339 FU 0 (up (up (up τ 0 13 (0 : Int32)) 0 15 (-1 : Int32)) 0 4 (0 : Int32)) (by omega) (by unfold FU; omega)
  have r1 : fX12_readsText_l17 FU (0 : Int32) (up (up (up τ 0 13 (0 : Int32)) 0 15 (-1 : Int32)) 0 4 (0 : Int32)) = some (z, τ1) := r1
  have h04 : τ1 0 4 = ι 0 := by rw [r3 0 4 (by omega), up_e]; rfl
  have h15 : τ1 0 15 = μ := by rw [r3 0 15 (by omega), up_j _ _ _ _ _ (by omega), up_e]; rfl
  have h13 : τ1 0 13 = ι 0 := by rw [r3 0 13 (by omega), up_j _ _ _ _ _ (by omega), up_j _ _ _ _ _ (by omega), up_e]; rfl
  have fp1 : frP τ τ1 := fun k j hk => by rw [r3 k j (by omega), up_g, if_neg (by omega), up_g, if_neg (by omega), up_g, if_neg (by omega)]
  have P1 : RP B m τ1 0 := ⟨frP_BR fp1 hR, by omega, h13, h15⟩
  have z4 : ∀ j, j < 339 → τ1 4 j = ι 0 := fun j hj => r2 j (by omega) hj
  have hD : DR σ3 τ1 0 0 0 0 := by
    refine ⟨⟨by omega, fun i hi => by omega, rfl, by omega⟩, h04, ⟨z4 0 (by omega), by omega, fun s hs => by omega, z4 1 (by omega), by omega, fun s hs => by omega, z4 2 (by omega), by omega, fun s hs => by omega, z4 4 (by omega), by omega, fun s hs => by omega⟩, ⟨by decide, ?_, ?_, ?_, fun i hi => by omega, fun i hi => by omega, fun i hi => by omega, fun i hi => by omega, fun i hi => by omega⟩, ⟨by decide, ?_, fun i hi => by omega, fun i hi => by omega, fun i hi => by omega, fun i hi => by omega⟩, ⟨?_, ?_, ?_, z4 3 (by omega)⟩, fun i h1 h2 => z4 _ (by omega)⟩
    · rw [g 3 (by omega)]; exact k2
    · rw [g 3 (by omega)]; exact k3
    · rw [g 3 (by omega)]; exact k4
    · rw [g 14 (by omega)]; exact k5
    · rw [g 23 (by omega)]; exact k6
    · rw [g 30 (by omega)]; exact k7
    · rw [g 30 (by omega)]; exact k8
  obtain ⟨x, ρ, υ, c1, c2, c3, c4, c5⟩ := stmt_sim (x := 1) hB3 n2 hD P1 rfl (Or.inl ⟨rfl, rfl⟩)
  -- the loop
  have loop : ∃ y z ρ' υ', fX6_firstError_l23 1 FU x (0 : Int32) ρ = some (y, z, ρ') ∧ fX12_readsText_l42 FU υ = some υ' ∧ frQ ρ ρ' ∧ frP υ υ' ∧ Fin B m ρ' υ' y := by
    rcases c5 with ⟨rfl, k', n', a', b', s', p', g1, g2, g3, g4, g5, g6⟩ | ⟨rfl, s', g1, g2, g3⟩
    · exact text_l m FU FU 0 s' p' k' n' a' b' ρ υ (by omega) (by unfold FU; omega) (by unfold FU; omega) (frQ_BC c3 hB3) g3 g2 g1 g4 g5 (by omega)
    · refine ⟨0, 0, ρ, υ, ?_, ?_, fun _ _ => rfl, fun _ _ _ => rfl, Or.inr ⟨rfl, s', g1, g2, g3⟩⟩
      · rw [show FU = 4095 + 1 from rfl, fX6_firstError_l23]
        unfold fX8_size
        rw [Option.bind_some, if_pos (show (0 : Int32) = 0 from rfl)]
        split <;> rfl
      · rw [show FU = 4095 + 1 from rfl, fX12_readsText_l42, r_notf g3 g1, Option.bind_some, if_pos (show ι 0 = (0 : Int32) from rfl)]
  obtain ⟨y, z', ρ', υ', l1, l2, l3, l4, l5⟩ := loop
  have fQ : frQ σ ρ' := frQ_trans f3 (frQ_trans c3 l3)
  have fP : frP τ υ' := frP_trans fp1 (frP_trans c4 l4)
  have eC : fX6_firstError 1 σ = if y = 0 then some (ρ' 1 3, ρ') else if ρ' 1 2 = 0 then some ((-1 : Int32), ρ') else some (ρ' 1 3, ρ') := by
    unfold fX6_firstError
    rw [show 1 + 1 = 2 from rfl, k1, Option.bind_some, n1, Option.bind_some, c1, Option.bind_some, l1, Option.bind_some]
  have eR : fX12_readsText τ = fX12_readsText_j76 υ' := by
    unfold fX12_readsText
    rw [r1, Option.bind_some, c2, Option.bind_some, l2, Option.bind_some]
  rw [eC, eR]
  unfold fX12_readsText_j76
  rcases l5 with ⟨rfl, k', n', a', b', s', p', g1, g2, g3, g4, g5⟩ | ⟨rfl, s', g1, g2, g3⟩
  · have hs' := g3.1
    have hkl := Kd_lt B m s'
    rw [if_neg (show ¬ (1 : Int32) = 0 by decide), g3.2.1, g3.2.2.1, r_fine g4.2.2.2, Option.bind_some, if_neg (show ¬ ι 1 = (0 : Int32) by decide)]
    obtain ⟨ω, o1, o2, o3, o4⟩ := r_look g4.1 g4.2.1 g4.2.2.1
    rw [g5] at o1 o2 o3
    have o15 : ω 0 15 = μ := (o4 0 15 (by omega)).trans g4.2.2.2
    have fP2 : frP τ ω := frP_trans fP (frP_M (frL_M o4))
    rw [o1, Option.bind_some]
    by_cases hend : m ≤ s'
    · refine ⟨μ, ρ', ω, ?_, ?_, fQ, fP2, Or.inl ⟨rfl, k', n', a', b', g1, DR_1 g2 (fun _ _ => rfl) (frL_M o4)⟩⟩
      · rw [if_pos (show ι (Kd B m s') = (0 : Int32) by rw [Kd_0.mpr hend]; rfl)]; rfl
      · refine (if_pos (show bv B m s' < (0 : Int32) by unfold bv; rw [if_pos hend]; decide)).trans ?_
        show (if (0 : Int32) ≤ ω 0 15 then some (ω 0 15, ω) else some ((-1 : Int32), ω)) = _
        rw [o15, if_neg (by decide)]; rfl
    · have hb := (hR.2.2 s' (by omega)).1
      have hk0 : ¬ Kd B m s' = 0 := fun z => hend (Kd_0.mp z)
      refine ⟨ι s', ρ', up ω 0 15 (ι s'), ?_, ?_, fQ, fun k j hk => ?_, Or.inr ⟨s', by omega, rfl⟩⟩
      · rw [if_neg (show ¬ ι (Kd B m s') = (0 : Int32) by rw [l_0, ι_eq (by omega) (by omega)]; exact hk0)]
      · refine (if_neg (show ¬ bv B m s' < (0 : Int32) by unfold bv; rw [if_neg hend, l_0, ι_lt (by omega) (by omega)]; omega)).trans ?_
        show (fX12_wrongAt (ω 0 14) ω).bind (fun v95 => if (0 : Int32) ≤ v95 0 15 then some (v95 0 15, v95) else some ((-1 : Int32), v95)) = _
        rw [r_wrong o15, Option.bind_some, o3, up_e, if_pos (show (0 : Int32) ≤ ι s' by rw [l_0, ι_le (by omega) (by omega)]; omega)]
      · rw [up_g, if_neg (by omega)]; exact fP2 k j hk
  · rw [if_pos (show (0 : Int32) = 0 from rfl), g2, r_notf g3 g1, Option.bind_some, if_pos (show ι 0 = (0 : Int32) from rfl), g3, if_pos (show (0 : Int32) ≤ ι s' by rw [l_0, ι_le (by omega) (by omega)]; omega)]
    exact ⟨ι s', ρ', υ', rfl, rfl, fQ, fP, Or.inr ⟨s', g1, rfl⟩⟩
