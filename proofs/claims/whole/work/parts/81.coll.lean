/-! PURE PART: the collation -/
theorem sm_mono (f : Nat → Nat) {x y : Nat} (h : x ≤ y) : sm f 0 x ≤ sm f 0 y := by
  induction y with
  | zero => have e : x = 0 := by omega
            rw [e]; exact Nat.le_refl _
  | succ y ih =>
    by_cases e : x = y + 1
    · rw [e]; exact Nat.le_refl _
    · rw [sm_last]
      have := ih (by omega)
      omega
theorem q_end {q : Nat → Int32} {k n x : Nat} (hQ : QI q k n) (hx : x < k) : sm (qN q) 0 x + qN q x ≤ n := by
  have h := sm_last (qN q) x 0
  rw [Nat.zero_add] at h
  have := sm_mono (qN q) (show x + 1 ≤ k by omega)
  rw [hQ.2.2.2.1] at this
  omega
theorem VR_t {σ ρ : Mem} {q F : Nat → Int32} {k n a : Nat} (hn : n ≤ 60) (ha : a ≤ 12) (hV : VR σ 42 q k n a F) (h : frT 35 σ ρ) : VR ρ 42 q k n a F := VR_c hn ha hV (fun j hj => h _ (by omega) (by omega)) (fun _ _ => rfl)
def cz (c : Nat) : Nat := if c = 0 then 2 else 1
def cy (c : Nat) : Nat := if c = 0 then 0 else 1
theorem miss_sim {F qf : Nat → Int32} {k n a q : Nat} (hQ : QI qf k n) (ha : a ≤ 12) (hq : q < k) : ∀ m n1 n2 c i (σ τ : Mem) l, i + m = qN qf q → m < n1 → m < n2 → c ≤ i → VR σ 42 qf k n a F → τ 1 = qf → τ 0 3 = ι k → τ 3 = F → TC σ 35 236 l → TR τ l → l.length + 3 * m + cz c ≤ 236 → ∃ c' z z' ρ υ l', fX10_writeMissing_l12 42 (ι q) 35 (ι (sm (qN qf) 0 q)) n1 (ι c) (ι i) σ = some (ι c', z, ρ) ∧ fX12_writesMissing_l4 (ι q) n2 (ι c) (ι i) τ = some (ι c', z', υ) ∧ TC ρ 35 236 l' ∧ TR υ l' ∧ l'.length + cy c' ≤ l.length + 3 * m + cz c ∧ c' ≤ 12 ∧ frT 35 σ ρ ∧ frW τ υ := by
  have hn := hQ.2.2.2.2
  have hk := hQ.2.1
  obtain ⟨g1, g2, g3⟩ := hQ.2.2.1 q hq
  have hend := q_end hQ hq
  intro m
  induction m with
  | zero =>
    intro n1 n2 c i σ τ l hi h1 h2 hc hV t1 t2 t3 hT hR hl
    obtain ⟨n1, rfl⟩ : ∃ k, n1 = k + 1 := ⟨n1 - 1, by omega⟩
    obtain ⟨n2, rfl⟩ : ∃ k, n2 = k + 1 := ⟨n2 - 1, by omega⟩
    have e1 : fX3_at (42 + 1) (ι q) σ = some (ι (qN qf q)) := by
      rw [c_at hV.1.1 (by omega) (show q < 8 by omega), hV.2.2.2.2.1 q hq]; rw [← g1]
    have e2 : τ 1 q = ι (qN qf q) := by rw [t1]; exact g1
    refine ⟨c, ι i, ι i, σ, τ, l, ?_, ?_, hT, hR, ?_, by omega, frT_refl _ _, frW_refl _⟩
    · rw [fX10_writeMissing_l12, e1, Option.bind_some, if_pos (by rw [ι_le (by omega) (by omega)]; omega)]
    · rw [fX12_writesMissing_l4]
      simp (disch := omega) only [l_0, l_1, l_2, l_3, l_4, l_5, l_6, l_7, l_8, l_9, l_10, l_12, l_13, l_24, l_31, l_32, l_40, l_41, l_42, l_44, l_45, l_48, l_49, l_50, l_57, l_59, l_60, l_65, l_88, l_89, l_97, l_98, l_99, l_100, l_105, l_108, l_109, l_114, l_118, l_120, l_122, l_144, l_255, l_269, l_279, l_339, l_400, l_600, l_999, l_1000, l_2373, l_2712, ι_lt, ι_le, ι_eq, ι_add, ι_mul, ι_sub, ι_div, ι_n, ι_m1, m1_ι, m1_lt, m1_le, lt_m1, le_m1, m1_lt_m1, m1_le_m1, m1_add1, neg_ι1, ι_addm, ι_addn, Bool.false_eq_true, Nat.not_lt_zero, Nat.add_zero, Nat.zero_add, Nat.mul_zero, Nat.reduceMul, Nat.reduceAdd, Nat.reduceSub, Nat.reduceLT, Nat.reduceLeDiff, Nat.reduceEqDiff, Nat.reduceDiv, Nat.reduceBEq, Nat.reduceBNe, false_or, or_false, true_or, or_true, and_true, true_and, false_and, and_false, not_false_eq_true, not_true_eq_false, if_true, if_false, if_pos, if_neg, Option.bind_some, ite_false, ite_true, eq_self, reduceIte, lm_0, lm_1, lm_2, lm_3, lm_4, lm_5, lm_6, lm_7, lm_8, lm_9, lm_10, lm_11, lm_12, lm_13, lm_14, lm_15, lm_16, lm_17, e2]
    · unfold cy cz; split <;> omega
  | succ m ih =>
    intro n1 n2 c i σ τ l hi h1 h2 hc hV t1 t2 t3 hT hR hl
    obtain ⟨n1, rfl⟩ : ∃ k, n1 = k + 1 := ⟨n1 - 1, by omega⟩
    obtain ⟨n2, rfl⟩ : ∃ k, n2 = k + 1 := ⟨n2 - 1, by omega⟩
    have e1 : fX3_at (42 + 1) (ι q) σ = some (ι (qN qf q)) := by
      rw [c_at hV.1.1 (by omega) (show q < 8 by omega), hV.2.2.2.2.1 q hq]; rw [← g1]
    have e2 : τ 1 q = ι (qN qf q) := by rw [t1]; exact g1
    have e3 := c_isPresent hn hV (show sm (qN qf) 0 q + i < n by omega)
    have e4 : fX12_isPresent (ι (sm (qN qf) 0 q + i)) τ = some (if pB F (sm (qN qf) 0 q + i) then ι 1 else ι 0) := by
      rw [r_isPresent (by omega), t3]
    have e5 : fX12_firstOf (ι q) τ = some (ι (sm (qN qf) 0 q)) := by
      have := r_firstOf (τ := τ) (k := k) (n := n) (by rw [t1]; exact hQ) (show q ≤ k by omega)
      rw [t1] at this; exact this
    have hno : ¬ (ι (qN qf q) ≤ ι i) := by rw [ι_le (by omega) (by omega)]; omega
    have hfn : ¬ (ι q < (0 : Int32) ∨ lm 1 ≤ (ι q).toNatClampNeg) := by simp (disch := omega) only [l_0, l_1, l_2, l_3, l_4, l_5, l_6, l_7, l_8, l_9, l_10, l_12, l_13, l_24, l_31, l_32, l_40, l_41, l_42, l_44, l_45, l_48, l_49, l_50, l_57, l_59, l_60, l_65, l_88, l_89, l_97, l_98, l_99, l_100, l_105, l_108, l_109, l_114, l_118, l_120, l_122, l_144, l_255, l_269, l_279, l_339, l_400, l_600, l_999, l_1000, l_2373, l_2712, ι_lt, ι_le, ι_eq, ι_add, ι_mul, ι_sub, ι_div, ι_n, ι_m1, m1_ι, m1_lt, m1_le, lt_m1, le_m1, m1_lt_m1, m1_le_m1, m1_add1, neg_ι1, ι_addm, ι_addn, Bool.false_eq_true, Nat.not_lt_zero, Nat.add_zero, Nat.zero_add, Nat.mul_zero, Nat.reduceMul, Nat.reduceAdd, Nat.reduceSub, Nat.reduceLT, Nat.reduceLeDiff, Nat.reduceEqDiff, Nat.reduceDiv, Nat.reduceBEq, Nat.reduceBNe, false_or, or_false, true_or, or_true, and_true, true_and, false_and, and_false, not_false_eq_true, not_true_eq_false, if_true, if_false, if_pos, if_neg, Option.bind_some, ite_false, ite_true, eq_self, reduceIte, lm_0, lm_1, lm_2, lm_3, lm_4, lm_5, lm_6, lm_7, lm_8, lm_9, lm_10, lm_11, lm_12, lm_13, lm_14, lm_15, lm_16, lm_17]; omega
    have hqn : (ι q).toNatClampNeg = q := ι_n (by omega)
    rw [fX10_writeMissing_l12, fX12_writesMissing_l4, e1, Option.bind_some, if_neg hno, if_neg hfn, hqn, e2, if_neg hno, e5, Option.bind_some, ι_add, e3, Option.bind_some, e4, Option.bind_some, l_1, ι_add, ι_add]
    by_cases hp : pB F (sm (qN qf) 0 q + i) = true
    · rw [if_pos hp, if_neg (by decide)]
      obtain ⟨c', z, z', ρ, υ, l', b1, b2, b3, b4, b5, b6, b7, b8⟩ := ih n1 n2 c (i + 1) σ τ l (by omega) (by omega) (by omega) (by omega) hV t1 t2 t3 hT hR (by omega)
      exact ⟨c', z, z', ρ, υ, l', b1, by rw [if_neg (by decide)]; exact b2, b3, b4, by omega, b6, b7, b8⟩
    · rw [if_neg hp, if_pos (by decide)]
      have hd := dec_len2 (v := i + 1) (by omega)
      by_cases hc0 : c = 0
      · have hcz : cz c = 2 := by unfold cz; rw [if_pos hc0]
        have hci : ι c = (0 : Int32) := by rw [hc0]; rfl
        obtain ⟨σ1, a1, a2, a3⟩ := c_w (c := 40) hT (by omega)
        obtain ⟨σ2, a4, a5, a6⟩ := c_w (c := 45) a2 (by rw [len1]; omega)
        obtain ⟨σ3, a7, a8, a9⟩ := c_dec (v := i + 1) (by omega) a5 (by rw [len1, len1]; omega)
        obtain ⟨τ1, d1, d2, d3⟩ := r_w (c := 40) hR (by omega) (by omega)
        obtain ⟨τ2, d4, d5, d6⟩ := r_w (c := 45) d2 (by rw [len1]; omega) (by omega)
        obtain ⟨τ3, d7, d8, d9⟩ := r_dec (v := i + 1) (by omega) (by omega) d5 (by rw [len1, len1]; omega)
        have fσ := frT_trans a3 (frT_trans a6 a9)
        have fτ := frW_trans d3 (frW_trans d6 d9)
        have hcz1 : cz (c + 1) = 1 := by unfold cz; rw [if_neg (by omega)]
        have hl3 : (l ++ [40] ++ [45] ++ dec (i + 1)).length ≤ l.length + 4 := by rw [List.length_append, len1, len1]; omega
        obtain ⟨c', z, z', ρ, υ, l', b1, b2, b3, b4, b5, b6, b7, b8⟩ := ih n1 n2 (c + 1) (i + 1) σ3 τ3 _ (by omega) (by omega) (by omega) (by omega) (VR_t hn ha hV fσ) (by rw [← t1]; exact funext fun j => fτ 1 j (by omega)) ((fτ 0 3 (by omega)).trans t2) (by rw [← t3]; exact funext fun j => fτ 3 j (by omega)) a8 d8 (by omega)
        have a1 : fX8_add 35 (40 : Int32) σ = some σ1 := a1
        have a4 : fX8_add 35 (45 : Int32) σ1 = some σ2 := a4
        have d1 : fX12_writes (40 : Int32) τ = some τ1 := d1
        have d4 : fX12_writes (45 : Int32) τ1 = some τ2 := d4
        refine ⟨c', z, z', ρ, υ, l', ?_, ?_, b3, b4, by omega, b6, frT_trans fσ b7, frW_trans fτ b8⟩
        · rw [if_pos hci, a1, Option.bind_some, a4, Option.bind_some, a7, Option.bind_some]; exact b1
        · rw [if_pos (by decide), if_pos hci, d1, Option.bind_some, if_pos hci, d4, Option.bind_some, d7, Option.bind_some]; exact b2
      · have hcz : cz c = 1 := by unfold cz; rw [if_neg hc0]
        have hci : ¬ ι c = (0 : Int32) := by rw [l_0, ι_eq (by omega) (by omega)]; exact hc0
        obtain ⟨σ1, a1, a2, a3⟩ := c_w (c := 44) hT (by omega)
        obtain ⟨σ3, a7, a8, a9⟩ := c_dec (v := i + 1) (by omega) a2 (by rw [len1]; omega)
        obtain ⟨τ1, d1, d2, d3⟩ := r_w (c := 44) hR (by omega) (by omega)
        obtain ⟨τ3, d7, d8, d9⟩ := r_dec (v := i + 1) (by omega) (by omega) d2 (by rw [len1]; omega)
        have fσ := frT_trans a3 a9
        have fτ := frW_trans d3 d9
        have hcz1 : cz (c + 1) = 1 := by unfold cz; rw [if_neg (by omega)]
        have hl3 : (l ++ [44] ++ dec (i + 1)).length ≤ l.length + 3 := by rw [List.length_append, len1]; omega
        obtain ⟨c', z, z', ρ, υ, l', b1, b2, b3, b4, b5, b6, b7, b8⟩ := ih n1 n2 (c + 1) (i + 1) σ3 τ3 _ (by omega) (by omega) (by omega) (by omega) (VR_t hn ha hV fσ) (by rw [← t1]; exact funext fun j => fτ 1 j (by omega)) ((fτ 0 3 (by omega)).trans t2) (by rw [← t3]; exact funext fun j => fτ 3 j (by omega)) a8 d8 (by omega)
        have a1 : fX8_add 35 (44 : Int32) σ = some σ1 := a1
        have d1 : fX12_writes (44 : Int32) τ = some τ1 := d1
        refine ⟨c', z, z', ρ, υ, l', ?_, ?_, b3, b4, by omega, b6, frT_trans fσ b7, frW_trans fτ b8⟩
        · rw [if_neg hci, a1, Option.bind_some, a7, Option.bind_some]; exact b1
        · rw [if_pos (by decide), if_neg hci, d1, Option.bind_some, if_neg hci, d7, Option.bind_some]; exact b2
theorem wm_sim {F qf : Nat → Int32} {k n a q : Nat} (hQ : QI qf k n) (ha : a ≤ 12) (hq : q < k) (σ τ : Mem) (l : List Nat) (hV : VR σ 42 qf k n a F) (t1 : τ 1 = qf) (t2 : τ 0 3 = ι k) (t3 : τ 3 = F) (hT : TC σ 35 236 l) (hR : TR τ l) (hl : l.length + 3 * qN qf q + 2 ≤ 236) : ∃ ρ υ l', fX10_writeMissing 42 (ι q) 35 σ = some ρ ∧ fX12_writesMissing (ι q) τ = some υ ∧ TC ρ 35 236 l' ∧ TR υ l' ∧ l'.length ≤ l.length + 3 * qN qf q + 2 ∧ frT 35 σ ρ ∧ frW τ υ := by
  have hg := (hQ.2.2.1 q hq).2.2
  obtain ⟨c', z, z', ρ, υ, l', b1, b2, b3, b4, b5, b6, b7, b8⟩ := miss_sim hQ ha hq (qN qf q) FU FU 0 0 σ τ l (by omega) (by unfold FU; omega) (by unfold FU; omega) (by omega) hV t1 t2 t3 hT hR (by unfold cz; rw [if_pos rfl]; omega)
  have hz : cz 0 = 2 := rfl
  rw [hz] at b5
  have b1 : fX10_writeMissing_l12 42 (ι q) 35 (ι (sm (qN qf) 0 q)) FU (0 : Int32) (0 : Int32) σ = some (ι c', z, ρ) := b1
  have b2 : fX12_writesMissing_l4 (ι q) FU (0 : Int32) (0 : Int32) τ = some (ι c', z', υ) := b2
  unfold fX10_writeMissing fX12_writesMissing
  rw [c_firstLeafOf hQ hV (show q ≤ k by omega), Option.bind_some, b1, b2, Option.bind_some, Option.bind_some]
  by_cases hc : c' = 0
  · have e : ι c' ≤ (0 : Int32) := by rw [hc]; decide
    refine ⟨ρ, υ, l', if_pos e, if_pos e, b3, b4, by omega, b7, b8⟩
  · have e : ¬ ι c' ≤ (0 : Int32) := by rw [l_0, ι_le (by omega) (by omega)]; omega
    have hy : cy c' = 1 := by unfold cy; rw [if_neg hc]
    obtain ⟨ρ1, a1, a2, a3⟩ := c_w (c := 41) b3 (by omega)
    obtain ⟨υ1, d1, d2, d3⟩ := r_w (c := 41) b4 (by omega) (by omega)
    have a1 : fX8_add 35 (41 : Int32) ρ = some ρ1 := a1
    have d1 : fX12_writes (41 : Int32) υ = some υ1 := d1
    refine ⟨ρ1, υ1, _, (if_neg e).trans (by rw [a1, Option.bind_some]), (if_neg e).trans (by rw [d1, Option.bind_some]), a2, d2, by rw [len1]; omega, frT_trans b7 a3, frW_trans b8 d3⟩
theorem coll_sim {F qf : Nat → Int32} {k n a : Nat} (hQ : QI qf k n) (ha : a ≤ 12) : ∀ m n1 n2 i (σ τ : Mem) l, i + m = k → m < n1 → m < n2 → VR σ 42 qf k n a F → τ 1 = qf → τ 0 3 = ι k → τ 3 = F → TC σ 35 236 l → TR τ l → l.length + 6 * m + 3 * sm (qN qf) i m ≤ 236 → ∃ z z' ρ υ l', fX10_writeCollation_l2 42 35 n1 (ι i) σ = some (z, ρ) ∧ fX12_formatCollation_l12 n2 (ι i) τ = some (z', υ) ∧ TC ρ 35 236 l' ∧ TR υ l' ∧ frT 35 σ ρ ∧ frW τ υ := by
  have hn := hQ.2.2.2.2
  have hk := hQ.2.1
  intro m
  induction m with
  | zero =>
    intro n1 n2 i σ τ l hi h1 h2 hV t1 t2 t3 hT hR hl
    obtain ⟨n1, rfl⟩ : ∃ k, n1 = k + 1 := ⟨n1 - 1, by omega⟩
    obtain ⟨n2, rfl⟩ : ∃ k, n2 = k + 1 := ⟨n2 - 1, by omega⟩
    refine ⟨ι i, ι i, σ, τ, l, ?_, ?_, hT, hR, frT_refl _ _, frW_refl _⟩
    · rw [fX10_writeCollation_l2, hV.2.1, if_pos (by rw [ι_le (by omega) (by omega)]; omega)]
    · rw [fX12_formatCollation_l12, t2, if_pos (by rw [ι_le (by omega) (by omega)]; omega)]
  | succ m ih =>
    intro n1 n2 i σ τ l hi h1 h2 hV t1 t2 t3 hT hR hl
    obtain ⟨n1, rfl⟩ : ∃ k, n1 = k + 1 := ⟨n1 - 1, by omega⟩
    obtain ⟨n2, rfl⟩ : ∃ k, n2 = k + 1 := ⟨n2 - 1, by omega⟩
    rw [sm] at hl
    have hik : i < k := by omega
    obtain ⟨g1, g2, g3⟩ := hQ.2.2.1 i hik
    have key : ∀ (σ τ : Mem) (l : List Nat), VR σ 42 qf k n a F → τ 1 = qf → τ 0 3 = ι k → τ 3 = F → TC σ 35 236 l → TR τ l → l.length + 5 + 6 * m + 3 * (qN qf i + sm (qN qf) (i + 1) m) ≤ 236 → ∃ z z' ρ υ l', fX10_writeCollation_j20 (fX10_writeCollation_l2 42 35 n1) 42 35 (ι i) σ = some (z, ρ) ∧ fX12_formatCollation_j30 (fX12_formatCollation_l12 n2) (ι i) τ = some (z', υ) ∧ TC ρ 35 236 l' ∧ TR υ l' ∧ frT 35 σ ρ ∧ frW τ υ := by
      intro σ τ l hV t1 t2 t3 hT hR hl
      have hd := dec_len2 (v := qN qf i) (by omega)
      obtain ⟨σ1, a1, a2, a3⟩ := c_w (c := 65 + i) hT (by omega)
      obtain ⟨τ1, d1, d2, d3⟩ := r_w (c := 65 + i) hR (by omega) (by omega)
      have hV1 := VR_t hn ha hV a3
      have e1 : fX3_at (42 + 1) (ι i) σ1 = some (ι (qN qf i)) := by
        rw [c_at hV1.1.1 (by omega) (show i < 8 by omega), hV1.2.2.2.2.1 i hik]; rw [← g1]
      have e2 : τ1 1 i = ι (qN qf i) := by rw [d3 1 i (by omega), t1]; exact g1
      obtain ⟨σ2, a4, a5, a6⟩ := c_dec (v := qN qf i) (by omega) a2 (by rw [len1]; omega)
      obtain ⟨τ2, d4, d5, d6⟩ := r_dec (v := qN qf i) (by omega) (by omega) d2 (by rw [len1]; omega)
      have fσ := frT_trans a3 a6
      have fτ := frW_trans d3 d6
      have s1 : τ2 1 = qf := by rw [← t1]; exact funext fun j => fτ 1 j (by omega)
      have s2 : τ2 0 3 = ι k := (fτ 0 3 (by omega)).trans t2
      have s3 : τ2 3 = F := by rw [← t3]; exact funext fun j => fτ 3 j (by omega)
      have hl2 : (l ++ [65 + i] ++ dec (qN qf i)).length ≤ l.length + 3 := by rw [List.length_append, len1]; omega
      obtain ⟨σ3, τ3, l3, b1, b2, b3, b4, b5, b6, b7⟩ := wm_sim hQ ha hik σ2 τ2 _ (VR_t hn ha hV fσ) s1 s2 s3 a5 d5 (by omega)
      have fσ := frT_trans fσ b6
      have fτ := frW_trans fτ b7
      obtain ⟨z, z', ρ, υ, l', c1, c2, c3, c4, c5, c6⟩ := ih n1 n2 (i + 1) σ3 τ3 l3 (by omega) (by omega) (by omega) (VR_t hn ha hV fσ) (by rw [← t1]; exact funext fun j => fτ 1 j (by omega)) ((fτ 0 3 (by omega)).trans t2) (by rw [← t3]; exact funext fun j => fτ 3 j (by omega)) b3 b4 (by omega)
      have hfn : ¬ (ι i < (0 : Int32) ∨ lm 1 ≤ (ι i).toNatClampNeg) := by simp (disch := omega) only [l_0, l_1, l_2, l_3, l_4, l_5, l_6, l_7, l_8, l_9, l_10, l_12, l_13, l_24, l_31, l_32, l_40, l_41, l_42, l_44, l_45, l_48, l_49, l_50, l_57, l_59, l_60, l_65, l_88, l_89, l_97, l_98, l_99, l_100, l_105, l_108, l_109, l_114, l_118, l_120, l_122, l_144, l_255, l_269, l_279, l_339, l_400, l_600, l_999, l_1000, l_2373, l_2712, ι_lt, ι_le, ι_eq, ι_add, ι_mul, ι_sub, ι_div, ι_n, ι_m1, m1_ι, m1_lt, m1_le, lt_m1, le_m1, m1_lt_m1, m1_le_m1, m1_add1, neg_ι1, ι_addm, ι_addn, Bool.false_eq_true, Nat.not_lt_zero, Nat.add_zero, Nat.zero_add, Nat.mul_zero, Nat.reduceMul, Nat.reduceAdd, Nat.reduceSub, Nat.reduceLT, Nat.reduceLeDiff, Nat.reduceEqDiff, Nat.reduceDiv, Nat.reduceBEq, Nat.reduceBNe, false_or, or_false, true_or, or_true, and_true, true_and, false_and, and_false, not_false_eq_true, not_true_eq_false, if_true, if_false, if_pos, if_neg, Option.bind_some, ite_false, ite_true, eq_self, reduceIte, lm_0, lm_1, lm_2, lm_3, lm_4, lm_5, lm_6, lm_7, lm_8, lm_9, lm_10, lm_11, lm_12, lm_13, lm_14, lm_15, lm_16, lm_17]; omega
      have hqn : (ι i).toNatClampNeg = i := ι_n (by omega)
      refine ⟨z, z', ρ, υ, l', ?_, ?_, c3, c4, frT_trans fσ c5, frW_trans fτ c6⟩
      · unfold fX10_writeCollation_j20
        rw [l_65, ι_add, a1, Option.bind_some, e1, Option.bind_some, a4, Option.bind_some, b1, Option.bind_some, l_1, ι_add]; exact c1
      · unfold fX12_formatCollation_j30
        rw [l_65, ι_add, d1, Option.bind_some, if_neg hfn, hqn, e2, d4, Option.bind_some, b2, Option.bind_some, l_1, ι_add]; exact c2
    rw [fX10_writeCollation_l2, fX12_formatCollation_l12, hV.2.1, t2]
    have hno : ¬ (ι k ≤ ι i) := by rw [ι_le (by omega) (by omega)]; omega
    rw [if_neg hno, if_neg hno]
    by_cases hi0 : i = 0
    · have e : ι i ≤ (0 : Int32) := by rw [hi0]; decide
      rw [if_pos e, if_pos e]
      exact key σ τ l hV t1 t2 t3 hT hR (by omega)
    · have e : ¬ ι i ≤ (0 : Int32) := by rw [l_0, ι_le (by omega) (by omega)]; omega
      rw [if_neg e, if_neg e]
      obtain ⟨σ1, a1, a2, a3⟩ := c_w (c := 32) hT (by omega)
      obtain ⟨τ1, d1, d2, d3⟩ := r_w (c := 32) hR (by omega) (by omega)
      have a1 : fX8_add 35 (32 : Int32) σ = some σ1 := a1
      have d1 : fX12_writes (32 : Int32) τ = some τ1 := d1
      rw [a1, d1, Option.bind_some, Option.bind_some]
      obtain ⟨z, z', ρ, υ, l', c1, c2, c3, c4, c5, c6⟩ := key σ1 τ1 _ (VR_t hn ha hV a3) (by rw [← t1]; exact funext fun j => d3 1 j (by omega)) ((d3 0 3 (by omega)).trans t2) (by rw [← t3]; exact funext fun j => d3 3 j (by omega)) a2 d2 (by rw [len1]; omega)
      exact ⟨z, z', ρ, υ, l', c1, c2, c3, c4, frT_trans a3 c5, frW_trans d3 c6⟩
theorem sim21 : Sim21 Rel := by
  intro σ τ hR
  replace hR := Rel_0 hR 0
  unfold fX12_formatCollation fX11_formatCollation
  generalize up τ 0 0 (0 : Int32) = τ at *
  obtain ⟨k, n, a, b, d, t, hO⟩ := RO_of hR
  obtain ⟨hr, hF, hV, hL, hC, hW⟩ := hO
  have hn := hr.1.2.2.2.2
  have hk := hr.1.2.1
  obtain ⟨mf, m1, m2, m3⟩ := hr.2.2.2.2.2.1
  have t0 : frT 35 σ (up σ 35 1 (ι 0)) := fun j a b => up_k _ _ _ _ _ a
  have T0 : TC (up σ 35 1 (ι 0)) 35 236 [] := ⟨ln36, by omega, Nat.zero_le _, up_e _ _ _ _, fun i hi => absurd hi (Nat.not_lt_zero i)⟩
  have q0 : frW τ (up τ 0 21 (ι 0)) := fun k j hk => by rw [up_g, if_neg (by omega)]
  have Q0 : TR (up τ 0 21 (ι 0)) [] := ⟨Nat.zero_le _, up_e _ _ _ _, fun i hi => absurd hi (Nat.not_lt_zero i)⟩
  have s0 : fX8_shortenTo 35 (0 : Int32) σ = some (up σ 35 1 (ι 0)) := c_short (by omega) m2 (Nat.zero_le mf)
  have hs := hr.1.2.2.2.1
  obtain ⟨z, z', ρ, υ, l', c1, c2, c3, c4, c5, c6⟩ := coll_sim (F := τ 3) hr.1 hF.2.1 k FU FU 0 (up σ 35 1 (ι 0)) (up τ 0 21 (ι 0)) [] (by omega) (by unfold FU; omega) (by unfold FU; omega) (VR_t hn hF.2.1 hV t0) (by rw [up_k _ _ _ _ _ (by omega)]) (by rw [up_j _ _ _ _ _ (by omega)]; exact hr.2.1) (by rw [up_k _ _ _ _ _ (by omega)]) T0 Q0 (by rw [hs]; show 0 + 6 * k + 3 * n ≤ 236; omega)
  obtain ⟨ω, e1, e2, e3, e4⟩ := r_tells c4
  have c1 : fX10_writeCollation_l2 42 35 FU (0 : Int32) (up σ 35 1 (ι 0)) = some (z, ρ) := c1
  have c2 : fX12_formatCollation_l12 FU (0 : Int32) (up τ 0 21 (0 : Int32)) = some (z', υ) := c2
  unfold fX8_size fX10_writeCollation
  simp only [Nat.zero_add, s0, Option.bind_some, c1, c2, e1]
  refine ⟨_, _, _, rfl, ?_, fmt_Rel hR c3.2.2.1 (frT_trans t0 c5) (frW_trans q0 c6) c3 e2 e3 e4⟩
  rw [c3.2.2.2.1]
