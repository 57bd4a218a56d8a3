/-! PURE PART: labels -/
def romA (k : Nat) : Nat := [109, 99, 100, 99, 99, 120, 108, 120, 120, 105, 118, 105, 105].getD k 0
def romB (k : Nat) : Nat := [32, 109, 32, 100, 32, 99, 32, 108, 32, 120, 32, 118, 32].getD k 0
def romV (k : Nat) : Nat := romL.getD k 0
def romW (k : Nat) : List Nat := if romB k = 32 then [romA k] else [romA k, romB k]
theorem rom_tab : ∀ k, k < 13 → (bytL.getD 20 []).getD (2 * k) 0 = ι (romA k) ∧ (bytL.getD 20 []).getD (2 * k + 1) 0 = ι (romB k) ∧ romA k < 128 ∧ romB k < 128 ∧ 1 ≤ romV k ∧ romV k ≤ 1000 := by decide +kernel
theorem rom_len : (bytL.getD 20 []).length = 26 := by decide +kernel
def gA (k : Nat) : Nat → Nat → List Nat
  | 0, _ => []
  | m + 1, left => rp (romW k) (left / romV k) ++ gA (k + 1) m (left % romV k)
theorem rom_eq : ∀ v, v < 1200 → gA 0 13 v = romC v ∧ (romC v).length ≤ 12 := by decide +kernel
theorem r_l15 {k : Nat} (hk : k < 13) : ∀ q n r (τ : Mem) l, r < romV k → q < n → q * romV k + r < 10000 → Ro τ → TR τ l → l.length + (rp (romW k) q).length ≤ 400 → ∃ υ, fX12_writesRoman_l15 20 (ι k) n (ι (q * romV k + r)) τ = some (ι r, υ) ∧ TR υ (l ++ rp (romW k) q) ∧ frW τ υ := by
  obtain ⟨t1, t2, t3, t4, t5, t6⟩ := rom_tab k hk
  intro q
  induction q with
  | zero =>
    intro n r τ l hr hn hx hro ht hl
    obtain ⟨n, rfl⟩ : ∃ k, n = k + 1 := ⟨n - 1, by omega⟩
    have e : τ 11 k = ι (romV k) := hro k hk
    refine ⟨τ, ?_, by rw [rp, List.append_nil]; exact ht, frW_refl _⟩
    rw [Nat.zero_mul, Nat.zero_add, fX12_writesRoman_l15]
    simp (disch := omega) only [l_0, l_1, l_2, l_3, l_4, l_5, l_6, l_7, l_8, l_9, l_10, l_12, l_13, l_24, l_31, l_32, l_40, l_41, l_42, l_44, l_45, l_48, l_49, l_50, l_57, l_59, l_60, l_65, l_88, l_89, l_97, l_98, l_99, l_100, l_105, l_108, l_109, l_114, l_118, l_120, l_122, l_144, l_255, l_269, l_279, l_339, l_400, l_600, l_999, l_1000, l_2373, l_2712, ι_lt, ι_le, ι_eq, ι_add, ι_mul, ι_sub, ι_div, ι_n, ι_m1, m1_ι, m1_lt, m1_le, lt_m1, le_m1, m1_lt_m1, m1_le_m1, m1_add1, neg_ι1, ι_addm, ι_addn, Bool.false_eq_true, Nat.not_lt_zero, Nat.add_zero, Nat.zero_add, Nat.mul_zero, Nat.reduceMul, Nat.reduceAdd, Nat.reduceSub, Nat.reduceLT, Nat.reduceLeDiff, Nat.reduceEqDiff, Nat.reduceDiv, Nat.reduceBEq, Nat.reduceBNe, false_or, or_false, true_or, or_true, and_true, true_and, false_and, and_false, not_false_eq_true, not_true_eq_false, if_true, if_false, if_pos, if_neg, Option.bind_some, ite_false, ite_true, eq_self, reduceIte, lm_0, lm_1, lm_2, lm_3, lm_4, lm_5, lm_6, lm_7, lm_8, lm_9, lm_10, lm_11, lm_12, lm_13, lm_14, lm_15, lm_16, lm_17, e]
  | succ q ih =>
    intro n r τ l hr hn hx hro ht hl
    obtain ⟨n, rfl⟩ : ∃ k, n = k + 1 := ⟨n - 1, by omega⟩
    have e : τ 11 k = ι (romV k) := hro k hk
    have ex : (q + 1) * romV k + r = romV k + (q * romV k + r) := by rw [Nat.succ_mul]; omega
    rw [ex] at hx ⊢
    rw [rp, List.length_append] at hl
    have hw : 1 ≤ (romW k).length := by unfold romW; split <;> simp
    obtain ⟨υ1, a1, a2, a3⟩ := r_w (c := romA k) ht (by omega) t3
    have e1 : υ1 11 k = ι (romV k) := (a3 11 k (by omega)).trans e
    have hd : q * romV k + r < 10000 := by omega
    have st : fX12_writesRoman_l15 20 (ι k) (n + 1) (ι (romV k + (q * romV k + r))) τ = (if ι (romB k) = (32 : Int32) then fX12_writesRoman_l15 20 (ι k) n (ι (q * romV k + r)) υ1 else (fX12_writes (ι (romB k)) υ1).bind fun v64 => if ι k < 0 ∨ lm 11 ≤ (ι k).toNatClampNeg then none else fX12_writesRoman_l15 20 (ι k) n (ι (romV k + (q * romV k + r)) - (v64 11 (ι k).toNatClampNeg)) v64) := by
      have t1' : (bytL.getD 20 []).getD (2 * k) (ι 0) = ι (romA k) := t1
      have t2' : (bytL.getD 20 []).getD (2 * k + 1) (ι 0) = ι (romB k) := t2
      rw [fX12_writesRoman_l15]
      generalize q * romV k + r = x at *
      simp (disch := omega) only [l_0, l_1, l_2, l_3, l_4, l_5, l_6, l_7, l_8, l_9, l_10, l_12, l_13, l_24, l_31, l_32, l_40, l_41, l_42, l_44, l_45, l_48, l_49, l_50, l_57, l_59, l_60, l_65, l_88, l_89, l_97, l_98, l_99, l_100, l_105, l_108, l_109, l_114, l_118, l_120, l_122, l_144, l_255, l_269, l_279, l_339, l_400, l_600, l_999, l_1000, l_2373, l_2712, ι_lt, ι_le, ι_eq, ι_add, ι_mul, ι_sub, ι_div, ι_n, ι_m1, m1_ι, m1_lt, m1_le, lt_m1, le_m1, m1_lt_m1, m1_le_m1, m1_add1, neg_ι1, ι_addm, ι_addn, Bool.false_eq_true, Nat.not_lt_zero, Nat.add_zero, Nat.zero_add, Nat.mul_zero, Nat.reduceMul, Nat.reduceAdd, Nat.reduceSub, Nat.reduceLT, Nat.reduceLeDiff, Nat.reduceEqDiff, Nat.reduceDiv, Nat.reduceBEq, Nat.reduceBNe, false_or, or_false, true_or, or_true, and_true, true_and, false_and, and_false, not_false_eq_true, not_true_eq_false, if_true, if_false, if_pos, if_neg, Option.bind_some, ite_false, ite_true, eq_self, reduceIte, lm_0, lm_1, lm_2, lm_3, lm_4, lm_5, lm_6, lm_7, lm_8, lm_9, lm_10, lm_11, lm_12, lm_13, lm_14, lm_15, lm_16, lm_17, e, rom_len, t1', t2', a1, e1, Nat.add_sub_cancel_left]
    by_cases hb : romB k = 32
    · have hW : romW k = [romA k] := by unfold romW; rw [if_pos hb]
      rw [hW] at hl
      have hl : l.length + (1 + (rp [romA k] q).length) ≤ 400 := hl
      rw [← hW] at hl
      obtain ⟨υ, b1, b2, b3⟩ := ih n r υ1 (l ++ [romA k]) hr (by omega) hd (frW_Ro a3 hro) a2 (by rw [len1]; omega)
      refine ⟨υ, ?_, ?_, frW_trans a3 b3⟩
      · rw [st, if_pos (by rw [hb]; rfl)]; exact b1
      · rw [List.append_assoc] at b2; rw [rp]
        have : [romA k] ++ rp (romW k) q = romW k ++ rp (romW k) q := by rw [hW]
        rw [this] at b2; exact b2
    · have hW : romW k = [romA k, romB k] := by unfold romW; rw [if_neg hb]
      have hl2 : l.length + (2 + (rp (romW k) q).length) ≤ 400 := by
        have : (romW k).length = 2 := by rw [hW]; rfl
        omega
      obtain ⟨υ2, d1, d2, d3⟩ := r_w (c := romB k) a2 (by rw [len1]; omega) t4
      have e2 : υ2 11 k = ι (romV k) := (d3 11 k (by omega)).trans e1
      obtain ⟨υ, b1, b2, b3⟩ := ih n r υ2 _ hr (by omega) hd (frW_Ro d3 (frW_Ro a3 hro)) d2 (by rw [len1, len1]; omega)
      refine ⟨υ, ?_, ?_, frW_trans a3 (frW_trans d3 b3)⟩
      · rw [st, if_neg (by rw [l_32, ι_eq (by omega) (by omega)]; exact hb), d1, Option.bind_some]
        generalize q * romV k + r = x at *
        simp (disch := omega) only [l_0, l_1, l_2, l_3, l_4, l_5, l_6, l_7, l_8, l_9, l_10, l_12, l_13, l_24, l_31, l_32, l_40, l_41, l_42, l_44, l_45, l_48, l_49, l_50, l_57, l_59, l_60, l_65, l_88, l_89, l_97, l_98, l_99, l_100, l_105, l_108, l_109, l_114, l_118, l_120, l_122, l_144, l_255, l_269, l_279, l_339, l_400, l_600, l_999, l_1000, l_2373, l_2712, ι_lt, ι_le, ι_eq, ι_add, ι_mul, ι_sub, ι_div, ι_n, ι_m1, m1_ι, m1_lt, m1_le, lt_m1, le_m1, m1_lt_m1, m1_le_m1, m1_add1, neg_ι1, ι_addm, ι_addn, Bool.false_eq_true, Nat.not_lt_zero, Nat.add_zero, Nat.zero_add, Nat.mul_zero, Nat.reduceMul, Nat.reduceAdd, Nat.reduceSub, Nat.reduceLT, Nat.reduceLeDiff, Nat.reduceEqDiff, Nat.reduceDiv, Nat.reduceBEq, Nat.reduceBNe, false_or, or_false, true_or, or_true, and_true, true_and, false_and, and_false, not_false_eq_true, not_true_eq_false, if_true, if_false, if_pos, if_neg, Option.bind_some, ite_false, ite_true, eq_self, reduceIte, lm_0, lm_1, lm_2, lm_3, lm_4, lm_5, lm_6, lm_7, lm_8, lm_9, lm_10, lm_11, lm_12, lm_13, lm_14, lm_15, lm_16, lm_17, e2, Nat.add_sub_cancel_left]
        exact b1
      · rw [List.append_assoc, List.append_assoc] at b2; rw [rp]
        have : [romA k] ++ ([romB k] ++ rp (romW k) q) = romW k ++ rp (romW k) q := by rw [hW]; rfl
        rw [this] at b2; exact b2
theorem r_l8 : ∀ m n k left (τ : Mem) l, k + m = 13 → m < n → left < 2000 → Ro τ → TR τ l → l.length + (gA k m left).length ≤ 400 → ∃ z z' υ, fX12_writesRoman_l8 20 n (ι left) (ι k) τ = some (z, z', υ) ∧ TR υ (l ++ gA k m left) ∧ frW τ υ := by
  intro m
  induction m with
  | zero =>
    intro n k left τ l h hn hx hro ht hl
    obtain ⟨n, rfl⟩ : ∃ k, n = k + 1 := ⟨n - 1, by omega⟩
    rw [fX12_writesRoman_l8]
    simp (disch := omega) only [l_0, l_1, l_2, l_3, l_4, l_5, l_6, l_7, l_8, l_9, l_10, l_12, l_13, l_24, l_31, l_32, l_40, l_41, l_42, l_44, l_45, l_48, l_49, l_50, l_57, l_59, l_60, l_65, l_88, l_89, l_97, l_98, l_99, l_100, l_105, l_108, l_109, l_114, l_118, l_120, l_122, l_144, l_255, l_269, l_279, l_339, l_400, l_600, l_999, l_1000, l_2373, l_2712, ι_lt, ι_le, ι_eq, ι_add, ι_mul, ι_sub, ι_div, ι_n, ι_m1, m1_ι, m1_lt, m1_le, lt_m1, le_m1, m1_lt_m1, m1_le_m1, m1_add1, neg_ι1, ι_addm, ι_addn, Bool.false_eq_true, Nat.not_lt_zero, Nat.add_zero, Nat.zero_add, Nat.mul_zero, Nat.reduceMul, Nat.reduceAdd, Nat.reduceSub, Nat.reduceLT, Nat.reduceLeDiff, Nat.reduceEqDiff, Nat.reduceDiv, Nat.reduceBEq, Nat.reduceBNe, false_or, or_false, true_or, or_true, and_true, true_and, false_and, and_false, not_false_eq_true, not_true_eq_false, if_true, if_false, if_pos, if_neg, Option.bind_some, ite_false, ite_true, eq_self, reduceIte]
    exact ⟨_, _, _, rfl, by rw [gA, List.append_nil]; exact ht, frW_refl _⟩
  | succ m ih =>
    intro n k left τ l h hn hx hro ht hl
    obtain ⟨n, rfl⟩ : ∃ k, n = k + 1 := ⟨n - 1, by omega⟩
    rw [fX12_writesRoman_l8]
    rw [gA, List.length_append] at hl
    have hk : k < 13 := by omega
    obtain ⟨t1, t2, t3, t4, t5, t6⟩ := rom_tab k hk
    have hm : left % romV k < romV k := Nat.mod_lt _ (by omega)
    have he : left / romV k * romV k + left % romV k = left := Nat.div_add_mod' left (romV k)
    have hq : left / romV k ≤ left := Nat.div_le_self _ _
    obtain ⟨τ1, a1, a2, a3⟩ := r_l15 hk (left / romV k) FU (left % romV k) τ l hm (by unfold FU; omega) (by rw [he]; omega) hro ht (by omega)
    rw [he] at a1
    have hlt : left % romV k < 2000 := Nat.lt_of_le_of_lt (Nat.mod_le _ _) hx
    obtain ⟨z, z', υ, b1, b2, b3⟩ := ih n (k + 1) (left % romV k) τ1 _ (by omega) (by omega) hlt (frW_Ro a3 hro) a2 (by rw [List.length_append]; omega)
    refine ⟨z, z', υ, ?_, ?_, frW_trans a3 b3⟩
    · simp (disch := omega) only [l_0, l_1, l_2, l_3, l_4, l_5, l_6, l_7, l_8, l_9, l_10, l_12, l_13, l_24, l_31, l_32, l_40, l_41, l_42, l_44, l_45, l_48, l_49, l_50, l_57, l_59, l_60, l_65, l_88, l_89, l_97, l_98, l_99, l_100, l_105, l_108, l_109, l_114, l_118, l_120, l_122, l_144, l_255, l_269, l_279, l_339, l_400, l_600, l_999, l_1000, l_2373, l_2712, ι_lt, ι_le, ι_eq, ι_add, ι_mul, ι_sub, ι_div, ι_n, ι_m1, m1_ι, m1_lt, m1_le, lt_m1, le_m1, m1_lt_m1, m1_le_m1, m1_add1, neg_ι1, ι_addm, ι_addn, Bool.false_eq_true, Nat.not_lt_zero, Nat.add_zero, Nat.zero_add, Nat.mul_zero, Nat.reduceMul, Nat.reduceAdd, Nat.reduceSub, Nat.reduceLT, Nat.reduceLeDiff, Nat.reduceEqDiff, Nat.reduceDiv, Nat.reduceBEq, Nat.reduceBNe, false_or, or_false, true_or, or_true, and_true, true_and, false_and, and_false, not_false_eq_true, not_true_eq_false, if_true, if_false, if_pos, if_neg, Option.bind_some, ite_false, ite_true, eq_self, reduceIte, a1]
      exact b1
    · rw [gA, ← List.append_assoc]; exact b2
theorem r_rom {τ : Mem} {v : Nat} {l : List Nat} (hv : v < 1200) (hro : Ro τ) (h : TR τ l) (hl : l.length + (romC v).length ≤ 400) : ∃ υ, fX12_writesRoman (ι v) τ = some υ ∧ TR υ (l ++ romC v) ∧ frW τ υ := by
  obtain ⟨e, -⟩ := rom_eq v hv
  rw [← e] at hl ⊢
  obtain ⟨z, z', υ, a1, a2, a3⟩ := r_l8 13 FU 0 v τ l (by omega) (by unfold FU; omega) (by omega) hro h hl
  have a1 : fX12_writesRoman_l8 20 FU (ι v) (0 : Int32) τ = some (z, z', υ) := a1
  refine ⟨υ, ?_, a2, a3⟩
  unfold fX12_writesRoman
  rw [a1, Option.bind_some]
def rgF (F : Nat → Int32) (x : Nat) : Nat → Option Nat
  | 0 => none
  | r + 1 => if nn (F (41 + 4 * r)) ≤ x ∧ x ≤ nn (F (41 + 4 * r + 1)) then some r else rgF F x r
theorem rgF_lt {F : Nat → Int32} {x : Nat} : ∀ b r, rgF F x b = some r → r < b ∧ nn (F (41 + 4 * r)) ≤ x
  | 0, r, h => by simp [rgF] at h
  | b + 1, r, h => by
    rw [rgF] at h
    by_cases hc : nn (F (41 + 4 * b)) ≤ x ∧ x ≤ nn (F (41 + 4 * b + 1))
    · rw [if_pos hc] at h; cases h; exact ⟨by omega, hc.1⟩
    · rw [if_neg hc] at h
      have := rgF_lt b r h
      exact ⟨by omega, this.2⟩
theorem c_rg {σ : Mem} {n b x : Nat} {F : Nat → Int32} (hn : n ≤ 60) (hb : b ≤ 12) (hL : LR σ 53 b F) (hR : ∀ r, r < b → RgI n F r) (hx : x < 60) : ∀ r n', r ≤ b → r < n' → (fX1_rangeOf_l7 53 (ι x) n' (ps r) σ).bind (fun q7 => match q7 with | .inl r => some r | .inr q7 => some (-1 : Int32)) = some (oi (rgF F x r)) := by
  obtain ⟨⟨l1, l2, l3, l4⟩, h1, h2, h3, h4, h5⟩ := hL
  intro r
  induction r with
  | zero =>
    intro n' hr hn'
    obtain ⟨n', rfl⟩ : ∃ k, n' = k + 1 := ⟨n' - 1, by omega⟩
    rw [fX1_rangeOf_l7, if_pos (by unfold ps; decide)]
    rfl
  | succ r ih =>
    intro n' hr hn'
    obtain ⟨n', rfl⟩ : ∃ k, n' = k + 1 := ⟨n' - 1, by omega⟩
    obtain ⟨p, q, s, y, g1, g2, g3, g4, g5, g6, g7, g8, g9⟩ := hR r (by omega)
    have e1 := h2 r (by omega)
    have e2 := h3 r (by omega)
    rw [ps_succ, fX1_rangeOf_l7, c_at l1 (by omega) (show r < 12 by omega), Option.bind_some, c_at l2 (by omega) (show r < 12 by omega), Option.bind_some, e1, e2, g6, g7, ps_dec, rgF, g6, g7, nn_ι (by omega), nn_ι (by omega)]
    rw [if_neg (by simp (disch := omega) only [l_0, l_1, l_2, l_3, l_4, l_5, l_6, l_7, l_8, l_9, l_10, l_12, l_13, l_24, l_31, l_32, l_40, l_41, l_42, l_44, l_45, l_48, l_49, l_50, l_57, l_59, l_60, l_65, l_88, l_89, l_97, l_98, l_99, l_100, l_105, l_108, l_109, l_114, l_118, l_120, l_122, l_144, l_255, l_269, l_279, l_339, l_400, l_600, l_999, l_1000, l_2373, l_2712, ι_lt, ι_le, ι_eq, ι_add, ι_mul, ι_sub, ι_div, ι_n, ι_m1, m1_ι, m1_lt, m1_le, lt_m1, le_m1, m1_lt_m1, m1_le_m1, m1_add1, neg_ι1, ι_addm, ι_addn, Bool.false_eq_true, Nat.not_lt_zero, Nat.add_zero, Nat.zero_add, Nat.mul_zero, Nat.reduceMul, Nat.reduceAdd, Nat.reduceSub, Nat.reduceLT, Nat.reduceLeDiff, Nat.reduceEqDiff, Nat.reduceDiv, Nat.reduceBEq, Nat.reduceBNe, false_or, or_false, true_or, or_true, and_true, true_and, false_and, and_false, not_false_eq_true, not_true_eq_false, if_true, if_false, if_pos, if_neg, Option.bind_some, ite_false, ite_true, eq_self, reduceIte])]
    by_cases c1 : x < p
    · rw [if_pos (by rw [ι_lt (by omega) (by omega)]; exact c1), if_neg (by omega)]
      exact ih n' (by omega) (by omega)
    · rw [if_neg (by rw [ι_lt (by omega) (by omega)]; exact c1)]
      by_cases c2 : q < x
      · rw [if_pos (by rw [ι_lt (by omega) (by omega)]; exact c2), if_neg (by omega)]
        exact ih n' (by omega) (by omega)
      · rw [if_neg (by rw [ι_lt (by omega) (by omega)]; exact c2), if_pos (by omega)]
        rfl
theorem c_rangeOf {σ : Mem} {n b x : Nat} {F : Nat → Int32} (hn : n ≤ 60) (hb : b ≤ 12) (hL : LR σ 53 b F) (hR : ∀ r, r < b → RgI n F r) (hx : x < 60) : fX1_rangeOf 53 (ι x) σ = some (oi (rgF F x b)) := by
  unfold fX1_rangeOf
  rw [hL.2.1, ps_sub]
  exact c_rg hn hb hL hR hx b FU (by omega) (by unfold FU; omega)
theorem r_rg {τ : Mem} {n b x : Nat} (hn : n ≤ 60) (hb : b ≤ 12) (hR : ∀ r, r < b → RgI n (τ 3) r) (hx : x < 60) : ∀ r n', r ≤ b → r < n' → (fX12_rangeOf_l9 (ι x) n' (ps r) τ).bind (fun q9 => match q9 with | .inl r => some r | .inr q9 => some (-1 : Int32)) = some (oi (rgF (τ 3) x r)) := by
  intro r
  induction r with
  | zero =>
    intro n' hr hn'
    obtain ⟨n', rfl⟩ : ∃ k, n' = k + 1 := ⟨n' - 1, by omega⟩
    rw [fX12_rangeOf_l9, if_pos (by unfold ps; decide)]
    rfl
  | succ r ih =>
    intro n' hr hn'
    obtain ⟨n', rfl⟩ : ∃ k, n' = k + 1 := ⟨n' - 1, by omega⟩
    obtain ⟨p, q, s, y, g1, g2, g3, g4, g5, g6, g7, g8, g9⟩ := hR r (by omega)
    rw [ps_succ, fX12_rangeOf_l9, ps_dec, rgF, g6, g7, nn_ι (by omega), nn_ι (by omega)]
    by_cases c1 : p ≤ x ∧ x ≤ q
    · simp (disch := omega) only [l_0, l_1, l_2, l_3, l_4, l_5, l_6, l_7, l_8, l_9, l_10, l_12, l_13, l_24, l_31, l_32, l_40, l_41, l_42, l_44, l_45, l_48, l_49, l_50, l_57, l_59, l_60, l_65, l_88, l_89, l_97, l_98, l_99, l_100, l_105, l_108, l_109, l_114, l_118, l_120, l_122, l_144, l_255, l_269, l_279, l_339, l_400, l_600, l_999, l_1000, l_2373, l_2712, ι_lt, ι_le, ι_eq, ι_add, ι_mul, ι_sub, ι_div, ι_n, ι_m1, m1_ι, m1_lt, m1_le, lt_m1, le_m1, m1_lt_m1, m1_le_m1, m1_add1, neg_ι1, ι_addm, ι_addn, Bool.false_eq_true, Nat.not_lt_zero, Nat.add_zero, Nat.zero_add, Nat.mul_zero, Nat.reduceMul, Nat.reduceAdd, Nat.reduceSub, Nat.reduceLT, Nat.reduceLeDiff, Nat.reduceEqDiff, Nat.reduceDiv, Nat.reduceBEq, Nat.reduceBNe, false_or, or_false, true_or, or_true, and_true, true_and, false_and, and_false, not_false_eq_true, not_true_eq_false, if_true, if_false, if_pos, if_neg, Option.bind_some, ite_false, ite_true, eq_self, reduceIte, lm_0, lm_1, lm_2, lm_3, lm_4, lm_5, lm_6, lm_7, lm_8, lm_9, lm_10, lm_11, lm_12, lm_13, lm_14, lm_15, lm_16, lm_17, g6, g7, r_isIn]; rfl
    · simp (disch := omega) only [l_0, l_1, l_2, l_3, l_4, l_5, l_6, l_7, l_8, l_9, l_10, l_12, l_13, l_24, l_31, l_32, l_40, l_41, l_42, l_44, l_45, l_48, l_49, l_50, l_57, l_59, l_60, l_65, l_88, l_89, l_97, l_98, l_99, l_100, l_105, l_108, l_109, l_114, l_118, l_120, l_122, l_144, l_255, l_269, l_279, l_339, l_400, l_600, l_999, l_1000, l_2373, l_2712, ι_lt, ι_le, ι_eq, ι_add, ι_mul, ι_sub, ι_div, ι_n, ι_m1, m1_ι, m1_lt, m1_le, lt_m1, le_m1, m1_lt_m1, m1_le_m1, m1_add1, neg_ι1, ι_addm, ι_addn, Bool.false_eq_true, Nat.not_lt_zero, Nat.add_zero, Nat.zero_add, Nat.mul_zero, Nat.reduceMul, Nat.reduceAdd, Nat.reduceSub, Nat.reduceLT, Nat.reduceLeDiff, Nat.reduceEqDiff, Nat.reduceDiv, Nat.reduceBEq, Nat.reduceBNe, false_or, or_false, true_or, or_true, and_true, true_and, false_and, and_false, not_false_eq_true, not_true_eq_false, if_true, if_false, if_pos, if_neg, Option.bind_some, ite_false, ite_true, eq_self, reduceIte, lm_0, lm_1, lm_2, lm_3, lm_4, lm_5, lm_6, lm_7, lm_8, lm_9, lm_10, lm_11, lm_12, lm_13, lm_14, lm_15, lm_16, lm_17, g6, g7, r_isIn]
      exact ih n' (by omega) (by omega)
theorem r_rangeOf {τ : Mem} {n b x : Nat} (hn : n ≤ 60) (h1 : τ 3 1 = ι b) (hb : b ≤ 12) (hR : ∀ r, r < b → RgI n (τ 3) r) (hx : x < 60) : fX12_rangeOf (ι x) τ = some (oi (rgF (τ 3) x b)) := by
  unfold fX12_rangeOf
  rw [if_neg (by decide)]
  have e : τ 3 (1 : Int32).toNatClampNeg = ι b := h1
  rw [e, ps_sub]
  exact r_rg hn hb hR hx b FU (by omega) (by unfold FU; omega)
def labR (F : Nat → Int32) (x y r : Nat) : List Nat :=
  if nn (F (41 + 4 * r + 2)) = 0 then dec (nn (F (41 + 4 * r + 3)) + (x - nn (F (41 + 4 * r)))) ++ [if y = 0 then 114 else 118]
  else if nn (F (41 + 4 * r + 2)) = 1 then dec (nn (F (41 + 4 * r + 3)) + 2 * (x - nn (F (41 + 4 * r))) + y)
  else if nn (F (41 + 4 * r + 2)) = 2 then romC (nn (F (41 + 4 * r + 3)) + 2 * (x - nn (F (41 + 4 * r))) + y) else []
def labW (F : Nat → Int32) (b x y : Nat) : List Nat := match rgF F x b with | none => [] | some r => labR F x y r
theorem lab_len {F : Nat → Int32} {n b x y : Nat} (hn : n ≤ 60) (hR : ∀ r, r < b → RgI n F r) (hx : x < 60) (hy : y < 2) : (labW F b x y).length ≤ 12 := by
  unfold labW
  cases h : rgF F x b with
  | none => exact Nat.zero_le _
  | some r =>
    show (labR F x y r).length ≤ 12
    obtain ⟨h1, h2⟩ := rgF_lt b r h
    obtain ⟨p, q, s, z, g1, g2, g3, g4, g5, g6, g7, g8, g9⟩ := hR r h1
    unfold labR
    rw [g9, nn_ι (by omega)]
    have d1 := dec_len (z + (x - nn (F (41 + 4 * r))))
    have d2 := dec_len (z + 2 * (x - nn (F (41 + 4 * r))) + y)
    have d3 := (rom_eq (z + 2 * (x - nn (F (41 + 4 * r))) + y) (by omega)).2
    repeat' split
    · rw [len1]; omega
    · rw [len1]; omega
    · omega
    · exact d3
    · exact Nat.zero_le _
theorem oi_neg {o : Option Nat} (h : o = none) : oi o = (-1 : Int32) := by rw [h]; rfl
theorem oi_pos {o : Option Nat} {r : Nat} (h : o = some r) (hr : r < 60) : ¬ oi o = (-1 : Int32) := by
  rw [h]
  intro z
  have z : ι r = μ := z
  rw [ι_m1 (by omega)] at z; exact z
theorem c_lab {σ : Mem} {o L n b x y : Nat} {F : Nat → Int32} {l : List Nat} (hn : n ≤ 60) (hb : b ≤ 12) (hL : LR σ 53 b F) (hR : ∀ r, r < b → RgI n F r) (hx : x < 60) (hy : y < 2) (h : TC σ o L l) (hl : l.length + 12 ≤ L) : ∃ ρ, fX1_write 53 (ι x) (ι y) o σ = some ρ ∧ TC ρ o L (l ++ labW F b x y) ∧ frT o σ ρ := by
  have hlen := lab_len hn hR hx hy
  unfold fX1_write
  rw [c_rangeOf hn hb hL hR hx, Option.bind_some]
  unfold labW at *
  cases hr : rgF F x b with
  | none =>
    rw [if_pos (oi_neg rfl)]
    exact ⟨σ, rfl, by rw [List.append_nil]; exact h, frT_refl _ _⟩
  | some r =>
    rw [hr] at hlen
    have hlen : (labR F x y r).length ≤ 12 := hlen
    show ∃ ρ, _ ∧ TC ρ o L (l ++ labR F x y r) ∧ _
    obtain ⟨h1, h2⟩ := rgF_lt b r hr
    rw [if_neg (oi_pos rfl (by omega))]
    obtain ⟨p, q, s, z, g1, g2, g3, g4, g5, g6, g7, g8, g9⟩ := hR r h1
    obtain ⟨⟨l1, l2, l3, l4⟩, k1, k2, k3, k4, k5⟩ := hL
    have hp : nn (F (41 + 4 * r)) = p := by rw [g6, nn_ι (by omega)]
    have hs : nn (F (41 + 4 * r + 2)) = s := by rw [g8, nn_ι (by omega)]
    have hz : nn (F (41 + 4 * r + 3)) = z := by rw [g9, nn_ι (by omega)]
    rw [hp] at h2
    unfold labR at hlen ⊢
    rw [hp, hs, hz] at hlen ⊢
    have c1 : fX3_at (53 + 1) (oi (some r)) σ = some (ι p) := by
      show fX3_at (53 + 1) (ι r) σ = _
      rw [c_at l1 (by omega) (show r < 12 by omega), k2 r h1, g6]
    have c2 : fX3_at (53 + 7) (oi (some r)) σ = some (ι z) := by
      show fX3_at (53 + 7) (ι r) σ = _
      rw [c_at l4 (by omega) (show r < 12 by omega), k5 r h1, g9]
    have c3 : fX3_at (53 + 5) (oi (some r)) σ = some (ι s) := by
      show fX3_at (53 + 5) (ι r) σ = _
      rw [c_at l3 (by omega) (show r < 12 by omega), k4 r h1, g8]
    rw [c1, Option.bind_some, c2, Option.bind_some, c3, Option.bind_some]
    simp (disch := omega) only [l_0, l_1, l_2, ι_sub, ι_mul, ι_add, ι_eq]
    by_cases s0 : s = 0
    · rw [if_pos s0] at hlen
      rw [if_pos s0, if_pos s0]
      rw [len1] at hlen
      obtain ⟨ρ1, a1, a2, a3⟩ := c_dec (v := z + (x - p)) (by omega) h (by omega)
      obtain ⟨ρ2, b1, b2, b3⟩ := c_w (c := if y = 0 then 114 else 118) a2 (by rw [List.length_append]; omega)
      refine ⟨ρ2, ?_, by rw [List.append_assoc] at b2; exact b2, frT_trans a3 b3⟩
      rw [a1, Option.bind_some]
      by_cases y0 : y = 0
      · rw [if_pos y0] at b1 ⊢
        have b1 : fX8_add o (114 : Int32) ρ1 = some ρ2 := b1
        rw [b1, Option.bind_some]
      · rw [if_neg y0] at b1 ⊢
        have b1 : fX8_add o (118 : Int32) ρ1 = some ρ2 := b1
        rw [b1, Option.bind_some]
    · rw [if_neg s0] at hlen
      rw [if_neg s0, if_neg s0]
      by_cases s1 : s = 1
      · rw [if_pos s1] at hlen
        rw [if_pos s1, if_pos s1]
        obtain ⟨ρ1, a1, a2, a3⟩ := c_dec (v := z + 2 * (x - p) + y) (by omega) h (by omega)
        exact ⟨ρ1, by rw [a1, Option.bind_some], a2, a3⟩
      · rw [if_neg s1] at hlen
        rw [if_neg s1, if_neg s1]
        by_cases s2 : s = 2
        · rw [if_pos s2] at hlen
          rw [if_pos s2, if_pos s2]
          obtain ⟨ρ1, a1, a2, a3⟩ := c_rom (v := z + 2 * (x - p) + y) (by omega) h (by omega)
          exact ⟨ρ1, by rw [a1, Option.bind_some], a2, a3⟩
        · rw [if_neg s2, if_neg s2]
          exact ⟨σ, rfl, by rw [List.append_nil]; exact h, frT_refl _ _⟩
theorem r_lab {τ : Mem} {n b x y : Nat} {l : List Nat} (hn : n ≤ 60) (h1 : τ 3 1 = ι b) (hb : b ≤ 12) (hR : ∀ r, r < b → RgI n (τ 3) r) (hro : Ro τ) (hx : x < 60) (hy : y < 2) (h : TR τ l) (hl : l.length + 12 ≤ 400) : ∃ υ, fX12_writesLeafLabel (ι x) (ι y) τ = some υ ∧ TR υ (l ++ labW (τ 3) b x y) ∧ frW τ υ := by
  have hlen := lab_len (F := τ 3) hn hR hx hy
  unfold fX12_writesLeafLabel
  rw [r_rangeOf hn h1 hb hR hx, Option.bind_some]
  unfold labW at *
  cases hr : rgF (τ 3) x b with
  | none =>
    rw [if_pos (oi_neg rfl)]
    exact ⟨τ, rfl, by rw [List.append_nil]; exact h, frW_refl _⟩
  | some r =>
    rw [hr] at hlen
    have hlen : (labR (τ 3) x y r).length ≤ 12 := hlen
    show ∃ ρ, _ ∧ TR ρ (l ++ labR (τ 3) x y r) ∧ _
    obtain ⟨h1, h2⟩ := rgF_lt b r hr
    rw [if_neg (oi_pos rfl (by omega))]
    obtain ⟨p, q, s, z, g1, g2, g3, g4, g5, g6, g7, g8, g9⟩ := hR r h1
    have hp : nn (τ 3 (41 + 4 * r)) = p := by rw [g6, nn_ι (by omega)]
    have hs : nn (τ 3 (41 + 4 * r + 2)) = s := by rw [g8, nn_ι (by omega)]
    have hz : nn (τ 3 (41 + 4 * r + 3)) = z := by rw [g9, nn_ι (by omega)]
    rw [hp] at h2
    unfold labR at hlen ⊢
    rw [hp, hs, hz] at hlen ⊢
    have eo : oi (some r) = ι r := rfl
    simp (disch := omega) only [l_0, l_1, l_2, l_3, l_4, l_5, l_6, l_7, l_8, l_9, l_10, l_12, l_13, l_24, l_31, l_32, l_40, l_41, l_42, l_44, l_45, l_48, l_49, l_50, l_57, l_59, l_60, l_65, l_88, l_89, l_97, l_98, l_99, l_100, l_105, l_108, l_109, l_114, l_118, l_120, l_122, l_144, l_255, l_269, l_279, l_339, l_400, l_600, l_999, l_1000, l_2373, l_2712, ι_lt, ι_le, ι_eq, ι_add, ι_mul, ι_sub, ι_div, ι_n, ι_m1, m1_ι, m1_lt, m1_le, lt_m1, le_m1, m1_lt_m1, m1_le_m1, m1_add1, neg_ι1, ι_addm, ι_addn, Bool.false_eq_true, Nat.not_lt_zero, Nat.add_zero, Nat.zero_add, Nat.mul_zero, Nat.reduceMul, Nat.reduceAdd, Nat.reduceSub, Nat.reduceLT, Nat.reduceLeDiff, Nat.reduceEqDiff, Nat.reduceDiv, Nat.reduceBEq, Nat.reduceBNe, false_or, or_false, true_or, or_true, and_true, true_and, false_and, and_false, not_false_eq_true, not_true_eq_false, if_true, if_false, if_pos, if_neg, Option.bind_some, ite_false, ite_true, eq_self, reduceIte, lm_0, lm_1, lm_2, lm_3, lm_4, lm_5, lm_6, lm_7, lm_8, lm_9, lm_10, lm_11, lm_12, lm_13, lm_14, lm_15, lm_16, lm_17, eo, g6, g8, g9]
    by_cases s0 : s = 0
    · rw [if_pos s0] at hlen
      rw [if_pos s0, if_pos s0]
      rw [len1] at hlen
      obtain ⟨ρ1, a1, a2, a3⟩ := r_dec (v := z + (x - p)) (by omega) (by omega) h (by omega)
      obtain ⟨ρ2, b1, b2, b3⟩ := r_w (c := if y = 0 then 114 else 118) a2 (by rw [List.length_append]; omega) (by split <;> omega)
      refine ⟨ρ2, ?_, by rw [List.append_assoc] at b2; exact b2, frW_trans a3 b3⟩
      rw [a1, Option.bind_some]
      by_cases y0 : y = 0
      · rw [if_pos y0] at b1 ⊢
        rw [b1, Option.bind_some]
      · rw [if_neg y0] at b1 ⊢
        rw [b1, Option.bind_some]
    · rw [if_neg s0] at hlen
      rw [if_neg s0, if_neg s0]
      by_cases s1 : s = 1
      · rw [if_pos s1] at hlen
        rw [if_pos s1, if_pos s1]
        obtain ⟨ρ1, a1, a2, a3⟩ := r_dec (v := z + 2 * (x - p) + y) (by omega) (by omega) h (by omega)
        exact ⟨ρ1, by rw [a1, Option.bind_some], a2, a3⟩
      · rw [if_neg s1] at hlen
        rw [if_neg s1, if_neg s1]
        by_cases s2 : s = 2
        · rw [if_pos s2] at hlen
          rw [if_pos s2, if_pos s2]
          obtain ⟨ρ1, a1, a2, a3⟩ := r_rom (v := z + 2 * (x - p) + y) (by omega) hro h (by omega)
          exact ⟨ρ1, by rw [a1, Option.bind_some], a2, a3⟩
        · rw [if_neg s2, if_neg s2]
          exact ⟨τ, rfl, by rw [List.append_nil]; exact h, frW_refl _⟩
