/-! PURE PART: the setup text as a whole -/
theorem out_pre {B : Nat → Nat} {m s : Nat} {σ τ υ : Mem} {c : Option (Int32 × Mem)} {r : Option Mem} (h : frP τ υ) (ho : Out B m σ υ s c r) : Out B m σ τ s c r := by
  obtain ⟨x, ρ, ω, h1, h2, h3, h4, h5⟩ := ho
  exact ⟨x, ρ, ω, h1, h2, h3, frP_trans h h4, h5⟩
theorem out_w1 {B : Nat → Nat} {m s : Nat} {σ τ : Mem} {c : Option (Int32 × Mem)} {r : Option Mem} (ho : Out B m σ τ s c r) : Out B m σ τ s (c.bind fun v => if v.1 = 0 ∨ v.1 = 1 then some (v.1, v.2) else none) (r.bind fun v => some v) := by
  obtain ⟨x, ρ, ω, h1, h2, h3, h4, h5⟩ := ho
  rw [h1, h2, Option.bind_some, Option.bind_some]
  have hx : x = 0 ∨ x = 1 := by
    rcases h5 with z | z
    · exact Or.inr z.1
    · exact Or.inl z.1
  have e : (if ((x, ρ) : Int32 × Mem).1 = 0 ∨ ((x, ρ) : Int32 × Mem).1 = 1 then some (((x, ρ) : Int32 × Mem).1, ((x, ρ) : Int32 × Mem).2) else none) = some (x, ρ) := if_pos hx
  rw [e]
  exact ⟨x, ρ, ω, rfl, rfl, h3, h4, h5⟩
theorem out_w2 {B : Nat → Nat} {m s : Nat} {σ τ : Mem} {c : Option (Int32 × Mem)} {r : Option Mem} (ho : Out B m σ τ s c r) : Out B m σ τ s (c.bind fun v => if v.1 = 0 then some (0, v.2) else some (1, v.2)) (r.bind fun v => some v) := by
  obtain ⟨x, ρ, ω, h1, h2, h3, h4, h5⟩ := ho
  rw [h1, h2, Option.bind_some, Option.bind_some]
  have e : (if ((x, ρ) : Int32 × Mem).1 = 0 then some ((0 : Int32), ((x, ρ) : Int32 × Mem).2) else some ((1 : Int32), ((x, ρ) : Int32 × Mem).2)) = some (x, ρ) := by
    rcases h5 with z | z
    · rw [z.1]; exact if_neg (by decide : ¬ (1 : Int32) = 0)
    · rw [z.1]; exact if_pos rfl
  rw [e]
  exact ⟨x, ρ, ω, rfl, rfl, h3, h4, h5⟩
theorem stmt_sim {B : Nat → Nat} {m s p k n a b : Nat} {σ τ : Mem} {x : Int32} (hB : BC B m σ) (hT : CT B m σ s) (hD : DR σ τ k n a b) (hP : RP B m τ p) (hs : Skp B m p = s) (hx : (x = 1 ∧ k = 0) ∨ (x = 0 ∧ 1 ≤ k)) : Out B m σ τ s (fX6_readStatement 1 σ) (fX12_readsStatement x τ) := by
  have hm := hB.1
  have s2 := (Skp_spec (B := B) hP.2.1).2.1
  rw [hs] at s2
  have hss : Skp B m s = s := by rw [← hs]; exact Skp_idem hP.2.1
  have hk := hD.1.1
  obtain ⟨υ0, a1, a2, a3, a4⟩ := r_look hP.1 hP.2.1 hP.2.2.1
  rw [hs] at a1 a2 a3
  have P0 : RP B m υ0 s := ⟨frM_BR (frL_M a4) hP.1, s2, a2, (a4 0 15 (by omega)).trans hP.2.2.2⟩
  obtain ⟨υ1, b1, b2, b3, b4⟩ := r_takes (w := 10) P0 hss (wl_ok 10 (by omega)).1 (wl_ok 10 (by omega)).2
  rw [isW_10] at b1 b2
  have fr1 : frL τ υ1 := frL_trans a4 b4
  unfold fX6_readStatement fX12_readsStatement
  rw [c_isWord hB hT (wl_ok 0 (by omega)).2, Option.bind_some, a1, Option.bind_some]
  show Out B m σ τ s _ ((fX12_takes 10 υ0).bind fun v13 => if v13.1 = 0 then (if x = 0 then ((fX12_takes 11 v13.2).bind fun v42 => if v42.1 = 0 then ((fX12_takes 12 v42.2).bind fun v58 => if v58.1 = 0 then ((fX12_takes 15 v58.2).bind fun v75 => if v75.1 = 0 then ((fX12_wrongAt (υ0 0 14) v75.2).bind fun v91 => some v91) else ((fX12_readsLabel (υ0 0 14) v75.2).bind fun v83 => some v83)) else ((fX12_readsSlip (υ0 0 14) v58.2).bind fun v66 => some v66)) else ((fX12_readsMissing v42.2).bind fun v49 => some v49)) else ((fX12_wrongAt (υ0 0 14) v13.2).bind fun v33 => some v33)) else ((fX12_readsQuire (υ0 0 14) v13.2).bind fun v21 => some v21))
  rw [a3, b1, Option.bind_some]
  have no1 : ∀ (ω : Mem), RP B m ω s → frL τ ω → Out B m σ τ s (some (0, σ)) ((fX12_wrongAt (ι s) ω).bind fun v => some v) := fun ω Q f => by
    rw [r_wrong Q.2.2.2, Option.bind_some]
    exact out_no (s' := s) (fun _ _ => rfl) (frP_trans (frP_M (frL_M f)) (fun k j hk => by rw [up_g, if_neg (by omega)])) (by omega) hT.2.2.1 (up_e _ _ _ _)
  by_cases w0 : isW B m 0 s = true
  · rw [if_pos w0] at b2
    rw [if_pos w0, if_neg (show ¬ ι 1 = (0 : Int32) by decide), if_neg (show ¬ ((ι 1, υ1) : Int32 × Mem).1 = 0 from (by decide : ¬ ι 1 = (0 : Int32)))]
    exact out_w1 (out_pre (frP_M (frL_M fr1)) (quire_sim hB hT (DR_1 hD (fun _ _ => rfl) (frL_M fr1)) b2))
  · rw [if_neg w0] at b2
    rw [if_neg w0, if_pos (show ι 0 = (0 : Int32) from rfl), if_pos (show ((ι 0, υ1) : Int32 × Mem).1 = 0 from rfl)]
    unfold fX10_quireCount
    rw [Option.bind_some, show (1 + 1) + 1 = 3 from rfl, hD.2.2.2.1.2.1]
    rcases hx with ⟨hx1, hk0⟩ | ⟨hx0, hk1⟩
    · rw [if_pos (show ι k = (0 : Int32) by rw [hk0]; rfl), if_neg (show ¬ x = 0 by rw [hx1]; decide)]
      exact no1 υ1 b2 fr1
    · rw [if_neg (show ¬ ι k = (0 : Int32) by rw [l_0, ι_eq (by omega) (by omega)]; omega), if_pos hx0, c_isWord hB hT (wl_ok 1 (by omega)).2, Option.bind_some]
      obtain ⟨υ2, c1, c2, c3, c4⟩ := r_takes (w := 11) b2 hss (wl_ok 11 (by omega)).1 (wl_ok 11 (by omega)).2
      rw [isW_11] at c1 c2
      have fr2 : frL τ υ2 := frL_trans fr1 c4
      show Out B m σ τ s _ ((fX12_takes 11 υ1).bind _)
      rw [c1, Option.bind_some]
      by_cases w1 : isW B m 1 s = true
      · rw [if_pos w1] at c2
        rw [if_pos w1, if_neg (show ¬ ι 1 = (0 : Int32) by decide), if_neg (show ¬ ((ι 1, υ2) : Int32 × Mem).1 = 0 from (by decide : ¬ ι 1 = (0 : Int32)))]
        exact out_w1 (out_pre (frP_M (frL_M fr2)) (miss_sim2 hB hT (DR_1 hD (fun _ _ => rfl) (frL_M fr2)) hk1 c2))
      · rw [if_neg w1] at c2
        rw [if_neg w1, if_pos (show ι 0 = (0 : Int32) from rfl), if_pos (show ((ι 0, υ2) : Int32 × Mem).1 = 0 from rfl), c_isWord hB hT (wl_ok 2 (by omega)).2, Option.bind_some]
        obtain ⟨υ3, d1, d2, d3, d4⟩ := r_takes (w := 12) c2 hss (wl_ok 12 (by omega)).1 (wl_ok 12 (by omega)).2
        rw [isW_12] at d1 d2
        have fr3 : frL τ υ3 := frL_trans fr2 d4
        show Out B m σ τ s _ ((fX12_takes 12 υ2).bind _)
        rw [d1, Option.bind_some]
        by_cases w2 : isW B m 2 s = true
        · rw [if_pos w2] at d2
          rw [if_pos w2, if_neg (show ¬ ι 1 = (0 : Int32) by decide), if_neg (show ¬ ((ι 1, υ3) : Int32 × Mem).1 = 0 from (by decide : ¬ ι 1 = (0 : Int32)))]
          exact out_w1 (out_pre (frP_M (frL_M fr3)) (slip_sim hB hT (DR_1 hD (fun _ _ => rfl) (frL_M fr3)) hk1 d2))
        · rw [if_neg w2] at d2
          rw [if_neg w2, if_pos (show ι 0 = (0 : Int32) from rfl), if_pos (show ((ι 0, υ3) : Int32 × Mem).1 = 0 from rfl), c_isWord hB hT (wl_ok 5 (by omega)).2, Option.bind_some]
          obtain ⟨υ4, e1, e2, e3, e4⟩ := r_takes (w := 15) d2 hss (wl_ok 15 (by omega)).1 (wl_ok 15 (by omega)).2
          rw [isW_15] at e1 e2
          have fr4 : frL τ υ4 := frL_trans fr3 e4
          show Out B m σ τ s _ ((fX12_takes 15 υ3).bind _)
          rw [e1, Option.bind_some]
          by_cases w5 : isW B m 5 s = true
          · rw [if_pos w5] at e2
            rw [if_pos w5, if_neg (show ¬ ι 1 = (0 : Int32) by decide), if_neg (show ¬ ((ι 1, υ4) : Int32 × Mem).1 = 0 from (by decide : ¬ ι 1 = (0 : Int32)))]
            exact out_w2 (out_pre (frP_M (frL_M fr4)) (label_sim hB hT (DR_1 hD (fun _ _ => rfl) (frL_M fr4)) hk1 e2))
          · rw [if_neg w5] at e2
            rw [if_neg w5, if_pos (show ι 0 = (0 : Int32) from rfl), if_pos (show ((ι 0, υ4) : Int32 × Mem).1 = 0 from rfl)]
            exact no1 υ4 e2 fr4
theorem c_semi {B : Nat → Nat} {m s : Nat} {σ : Mem} (hB : BC B m σ) (hT : CT B m σ s) (h : s < m ∧ B s = 59) : fX6_isSemicolon 1 σ = some 1 := by
  have hm := hB.1
  have hk : Kd B m s = 3 := by unfold Kd; rw [if_neg (by omega), if_neg (by omega), if_neg (by omega)]
  unfold fX6_isSemicolon
  rw [hT.2.1, if_pos (show ι (Kd B m s) = (3 : Int32) by rw [hk]; rfl), show 1 + 32 = 33 from rfl, hT.2.2.1, c_byte hB (by omega), Option.bind_some]
  have eb : bv B m s = ι 59 := by unfold bv; rw [if_neg (by omega), h.2]
  rw [eb, if_pos (show ι 59 = (59 : Int32) from rfl)]
theorem c_semi_no {B : Nat → Nat} {m s : Nat} {σ : Mem} (hB : BC B m σ) (hT : CT B m σ s) (h : ¬ (s < m ∧ B s = 59)) : fX6_isSemicolon 1 σ = some 0 := by
  have hm := hB.1
  have hs := hT.1
  unfold fX6_isSemicolon
  rw [show 1 + 32 = 33 from rfl, hT.2.2.1, c_byte hB (by omega), Option.bind_some]
  have hb : ¬ bv B m s = (59 : Int32) := by
    unfold bv
    by_cases c : m ≤ s
    · rw [if_pos c]; decide
    · have hb := (hB.2.2 s (by omega)).1
      rw [if_neg c, l_59, ι_eq (by omega) (by omega)]; omega
  rw [if_neg hb]
  split <;> rfl
theorem bv_semi {B : Nat → Nat} {m s : Nat} {τ : Mem} (hB : BR B m τ) : (bv B m s = (59 : Int32)) = (s < m ∧ B s = 59) := by
  have hm := hB.1
  unfold bv
  by_cases c : m ≤ s
  · rw [if_pos c]; exact propext ⟨fun z => absurd z (by decide), fun z => by omega⟩
  · have hb := (hB.2.2 s (by omega)).1
    rw [if_neg c, l_59, ι_eq (by omega) (by omega)]
    exact propext ⟨fun z => ⟨by omega, z⟩, fun z => z.2⟩
def Fin (B : Nat → Nat) (m : Nat) (ρ υ : Mem) (x : Int32) : Prop := (x = 1 ∧ ∃ k n a b s' p', 1 ≤ k ∧ DR ρ υ k n a b ∧ CT B m ρ s' ∧ RP B m υ p' ∧ Skp B m p' = s') ∨ (x = 0 ∧ ∃ s', s' ≤ 600 ∧ ρ 1 3 = ι s' ∧ υ 0 15 = ι s')
theorem text_l {B : Nat → Nat} {m : Nat} : ∀ d n1 n2 i s p k n a b (σ τ : Mem), m - s ≤ d → d < n1 → d < n2 → BC B m σ → CT B m σ s → DR σ τ k n a b → 1 ≤ k → RP B m τ p → Skp B m p = s → i ≤ s → ∃ x z ρ υ, fX6_firstError_l23 1 n1 1 (ι i) σ = some (x, z, ρ) ∧ fX12_readsText_l42 n2 τ = some υ ∧ frQ σ ρ ∧ frP τ υ ∧ Fin B m ρ υ x := by
  intro d
  induction d with
  | zero =>
    intro n1 n2 i s p k n a b σ τ hd h1 h2 hB hT hD hk hP hs hi
    obtain ⟨n1, rfl⟩ : ∃ k, n1 = k + 1 := ⟨n1 - 1, by omega⟩
    obtain ⟨n2, rfl⟩ : ∃ k, n2 = k + 1 := ⟨n2 - 1, by omega⟩
    have hm := hB.1
    have hsm := hT.1
    have hss : Skp B m s = s := by rw [← hs]; exact Skp_idem hP.2.1
    obtain ⟨υ0, a1, a2, a3, a4⟩ := r_look hP.1 hP.2.1 hP.2.2.1
    rw [hs] at a1 a2 a3
    have P0 : RP B m υ0 s := ⟨frM_BR (frL_M a4) hP.1, hsm, a2, (a4 0 15 (by omega)).trans hP.2.2.2⟩
    have hno : ¬ (s < m ∧ B s = 59) := by omega
    refine ⟨1, ι i, σ, υ0, ?_, ?_, fun _ _ => rfl, frP_M (frL_M a4), Or.inl ⟨rfl, k, n, a, b, s, s, hk, DR_1 hD (fun _ _ => rfl) (frL_M a4), hT, P0, hss⟩⟩
    · rw [fX6_firstError_l23]
      unfold fX8_size
      rw [Option.bind_some, if_neg (show ¬ (1 : Int32) = 0 by decide), c_semi_no hB hT hno, Option.bind_some, if_pos rfl]
      split <;> rfl
    · rw [fX12_readsText_l42, r_fine hP.2.2.2, Option.bind_some, if_neg (by decide), a1, Option.bind_some]
      exact if_neg (show ¬ bv B m s = (59 : Int32) by rw [bv_semi hP.1]; exact hno)
  | succ d ih =>
    intro n1 n2 i s p k n a b σ τ hd h1 h2 hB hT hD hk hP hs hi
    obtain ⟨n1, rfl⟩ : ∃ k, n1 = k + 1 := ⟨n1 - 1, by omega⟩
    obtain ⟨n2, rfl⟩ : ∃ k, n2 = k + 1 := ⟨n2 - 1, by omega⟩
    have hm := hB.1
    have hsm := hT.1
    have hss : Skp B m s = s := by rw [← hs]; exact Skp_idem hP.2.1
    obtain ⟨υ0, a1, a2, a3, a4⟩ := r_look hP.1 hP.2.1 hP.2.2.1
    rw [hs] at a1 a2 a3
    have P0 : RP B m υ0 s := ⟨frM_BR (frL_M a4) hP.1, hsm, a2, (a4 0 15 (by omega)).trans hP.2.2.2⟩
    by_cases hse : s < m ∧ B s = 59
    · have hk3 : Kd B m s = 3 := by unfold Kd; rw [if_neg (by omega), if_neg (by omega), if_neg (by omega)]
      have ht : Tk B m s = s + 1 := by unfold Tk; rw [if_pos hk3]
      obtain ⟨ρ1, b1, b2, b3, b4⟩ := c_nextT hB hT
      rw [ht] at b2
      have u := Skp_spec (B := B) (show s + 1 ≤ m by omega)
      have P1 : RP B m (up υ0 0 13 (ι (s + 1))) (s + 1) := ⟨BR_c P0.1 (up_j _ _ _ _ _ (by omega)) (up_k _ _ _ _ _ (by omega)), by omega, up_e _ _ _ _, by rw [up_j _ _ _ _ _ (by omega)]; exact P0.2.2.2⟩
      have fr1 : frM τ (up υ0 0 13 (ι (s + 1))) := fun k j hk => by rw [up_g, if_neg (by omega)]; exact a4 k j (by omega)
      obtain ⟨x, ρ, υ, c1, c2, c3, c4, c5⟩ := stmt_sim (x := 0) b3 b2 (DR_1 hD b4 fr1) P1 rfl (Or.inr ⟨rfl, hk⟩)
      have e1 : fX6_firstError_l23 1 (n1 + 1) 1 (ι i) σ = fX6_firstError_l23 1 n1 x (ι (i + 1)) ρ := by
        rw [fX6_firstError_l23]
        unfold fX8_size
        rw [Option.bind_some, show 1 + 32 = 33 from rfl, hB.2.1, if_neg (by rw [ι_le (by omega) (by omega)]; omega), if_neg (show ¬ (1 : Int32) = 0 by decide), c_semi hB hT hse, Option.bind_some, if_neg (by decide), b1, Option.bind_some, c1, Option.bind_some, l_1, ι_add]
      have e2 : fX12_readsText_l42 (n2 + 1) τ = fX12_readsText_l42 n2 υ := by
        rw [fX12_readsText_l42, r_fine hP.2.2.2, Option.bind_some, if_neg (by decide), a1, Option.bind_some]
        refine (if_pos (show bv B m s = (59 : Int32) by rw [bv_semi hP.1]; exact hse)).trans ?_
        show (fX12_readsStatement (0 : Int32) (up υ0 0 13 (υ0 0 13 + (1 : Int32)))).bind _ = _
        rw [a2, l_1, ι_add, c2, Option.bind_some]
      rw [e1, e2]
      rcases c5 with ⟨rfl, k', n', a', b', s', p', g1, g2, g3, g4, g5, g6⟩ | ⟨rfl, s', g1, g2, g3⟩
      · obtain ⟨x, z, ρ', υ', q1, q2, q3, q4, q5⟩ := ih n1 n2 (i + 1) s' p' k' n' a' b' ρ υ (by omega) (by omega) (by omega) (frQ_BC c3 b3) g3 g2 g1 g4 g5 (by omega)
        exact ⟨x, z, ρ', υ', q1, q2, frQ_trans (frQ_1 b4) (frQ_trans c3 q3), frP_trans (frP_M fr1) (frP_trans c4 q4), q5⟩
      · obtain ⟨n1, rfl⟩ : ∃ k, n1 = k + 1 := ⟨n1 - 1, by omega⟩
        obtain ⟨n2, rfl⟩ : ∃ k, n2 = k + 1 := ⟨n2 - 1, by omega⟩
        refine ⟨0, ι (i + 1), ρ, υ, ?_, ?_, frQ_trans (frQ_1 b4) c3, frP_trans (frP_M fr1) c4, Or.inr ⟨rfl, s', g1, g2, g3⟩⟩
        · rw [fX6_firstError_l23]
          unfold fX8_size
          rw [Option.bind_some, if_pos (show (0 : Int32) = 0 from rfl)]
          split <;> rfl
        · rw [fX12_readsText_l42, r_notf g3 g1, Option.bind_some, if_pos (show ι 0 = (0 : Int32) from rfl)]
    · refine ⟨1, ι i, σ, υ0, ?_, ?_, fun _ _ => rfl, frP_M (frL_M a4), Or.inl ⟨rfl, k, n, a, b, s, s, hk, DR_1 hD (fun _ _ => rfl) (frL_M a4), hT, P0, hss⟩⟩
      · rw [fX6_firstError_l23]
        unfold fX8_size
        rw [Option.bind_some, if_neg (show ¬ (1 : Int32) = 0 by decide), c_semi_no hB hT hse, Option.bind_some, if_pos rfl]
        split <;> rfl
      · rw [fX12_readsText_l42, r_fine hP.2.2.2, Option.bind_some, if_neg (by decide), a1, Option.bind_some]
        exact if_neg (show ¬ bv B m s = (59 : Int32) by rw [bv_semi hP.1]; exact hse)
theorem r_zero : ∀ d f i (τ : Mem), i + d = 339 → d < f → ∃ z υ, fX12_readsText_l17 f (ι i) τ = some (z, υ) ∧ (∀ j, i ≤ j → j < 339 → υ 4 j = ι 0) ∧ ∀ k j, ¬ (k = 4 ∧ i ≤ j ∧ j < 339) → υ k j = τ k j := by
  intro d
  induction d with
  | zero =>
    intro f i τ hi hf
    obtain ⟨f, rfl⟩ : ∃ k, f = k + 1 := ⟨f - 1, by omega⟩
    rw [fX12_readsText_l17, if_pos (by rw [l_339, ι_le (by omega) (by omega)]; omega)]
    exact ⟨_, _, rfl, fun j h1 h2 => by omega, fun _ _ _ => rfl⟩
  | succ d ih =>
    intro f i τ hi hf
    obtain ⟨f, rfl⟩ : ∃ k, f = k + 1 := ⟨f - 1, by omega⟩
    have hfn : ¬ (ι i < (0 : Int32) ∨ lm 4 ≤ (ι i).toNatClampNeg) := by simp (disch := omega) only [l_0, l_1, l_2, l_3, l_4, l_5, l_6, l_7, l_8, l_9, l_10, l_12, l_13, l_24, l_31, l_32, l_40, l_41, l_42, l_44, l_45, l_48, l_49, l_50, l_57, l_59, l_60, l_65, l_88, l_89, l_97, l_98, l_99, l_100, l_105, l_108, l_109, l_114, l_118, l_120, l_122, l_144, l_255, l_269, l_279, l_339, l_400, l_600, l_999, l_1000, l_2373, l_2712, ι_lt, ι_le, ι_eq, ι_add, ι_mul, ι_sub, ι_div, ι_n, ι_m1, m1_ι, m1_lt, m1_le, lt_m1, le_m1, m1_lt_m1, m1_le_m1, m1_add1, neg_ι1, ι_addm, ι_addn, Bool.false_eq_true, Nat.not_lt_zero, Nat.add_zero, Nat.zero_add, Nat.mul_zero, Nat.reduceMul, Nat.reduceAdd, Nat.reduceSub, Nat.reduceLT, Nat.reduceLeDiff, Nat.reduceEqDiff, Nat.reduceDiv, Nat.reduceBEq, Nat.reduceBNe, false_or, or_false, true_or, or_true, and_true, true_and, false_and, and_false, not_false_eq_true, not_true_eq_false, if_true, if_false, if_pos, if_neg, Option.bind_some, ite_false, ite_true, eq_self, reduceIte, lm_0, lm_1, lm_2, lm_3, lm_4, lm_5, lm_6, lm_7, lm_8, lm_9, lm_10, lm_11, lm_12, lm_13, lm_14, lm_15, lm_16, lm_17]; omega
    rw [fX12_readsText_l17, if_neg (by rw [l_339, ι_le (by omega) (by omega)]; omega), if_neg hfn, ι_n (by omega), l_1, ι_add]
    obtain ⟨z, υ, b1, b2, b3⟩ := ih f (i + 1) (up τ 4 i (0 : Int32)) (by omega) (by omega)
    refine ⟨z, υ, b1, fun j h1 h2 => ?_, fun k j hk => ?_⟩
    · by_cases e : j = i
      · rw [b3 4 j (by omega), e, up_e]; rfl
      · exact b2 j (by omega) h2
    · rw [b3 k j (by omega), up_g, if_neg (by omega)]
theorem text_sim {B : Nat → Nat} {m : Nat} {σ τ : Mem} (hB : BC B m σ) (hR : BR B m τ) : ∃ v ρ υ, fX6_firstError 1 σ = some (v, ρ) ∧ fX12_readsText τ = some (v, υ) ∧ frQ σ ρ ∧ frP τ υ ∧ ((v = μ ∧ ∃ k n a b, 1 ≤ k ∧ DR ρ υ k n a b) ∨ ∃ s, s ≤ 600 ∧ v = ι s) := by
  have hm := hB.1
  -- the class begins
  have hcl : ∃ σ1, fX7_clear 2 σ = some σ1 ∧ σ1 3 5 = ι 0 ∧ σ1 3 6 = ι 0 ∧ σ1 3 7 = ι 0 ∧ σ1 14 4 = ι 0 ∧ σ1 23 3 = ι 0 ∧ σ1 30 1 = ι 0 ∧ σ1 30 2 = ι 0 ∧ frQ σ σ1 := by
    refine ⟨_, (by unfold fX7_clear fX10_clear fX1_clear fX5_clear fX9_reset; simp only [Option.bind_some]; rfl), ?_, ?_, ?_, ?_, ?_, ?_, ?_, fun j hj => ?_⟩
    all_goals (simp (disch := omega) only [up_e, up_j, up_k, Nat.reduceAdd])
    all_goals rfl
  obtain ⟨σ1, k1, k2, k3, k4, k5, k6, k7, k8, k9⟩ := hcl
  have f2 : frQ σ (up σ1 1 4 (0 : Int32)) := fun j hj => by rw [up_k _ _ _ _ _ (by omega)]; exact k9 j hj
  have hB2 := frQ_BC f2 hB
  obtain ⟨σ3, n1, n2, n3⟩ := c_next (e := 0) hB2 (up_e _ _ _ _) (by omega)
  have f3 : frQ σ σ3 := frQ_trans f2 (frQ_1 n3)
  have hB3 := frQ_BC f3 hB
  have g : ∀ j, 2 ≤ j → σ3 j = σ1 j := fun j hj => by rw [n3 j (by omega), up_k _ _ _ _ _ (by omega)]
  -- the reference begins
  obtain ⟨z, τ1, r1, r2, r3⟩ := r_zero 339 FU 0 (up (up (up τ 0 13 (0 : Int32)) 0 15 (-1 : Int32)) 0 4 (0 : Int32)) (by omega) (by unfold FU; omega)
  have r1 : fX12_readsText_l17 FU (0 : Int32) (up (up (up τ 0 13 (0 : Int32)) 0 15 (-1 : Int32)) 0 4 (0 : Int32)) = some (z, τ1) := r1
  have h04 : τ1 0 4 = ι 0 := by rw [r3 0 4 (by omega), up_e]; rfl
  have h15 : τ1 0 15 = μ := by rw [r3 0 15 (by omega), up_j _ _ _ _ _ (by omega), up_e]; rfl
  have h13 : τ1 0 13 = ι 0 := by rw [r3 0 13 (by omega), up_j _ _ _ _ _ (by omega), up_j _ _ _ _ _ (by omega), up_e]; rfl
  have fp1 : frP τ τ1 := fun k j hk => by rw [r3 k j (by omega), up_g, if_neg (by omega), up_g, if_neg (by omega), up_g, if_neg (by omega)]
  have P1 : RP B m τ1 0 := ⟨frP_BR fp1 hR, by omega, h13, h15⟩
  have z4 : ∀ j, j < 339 → τ1 4 j = ι 0 := fun j hj => r2 j (by omega) hj
  have hD : DR σ3 τ1 0 0 0 0 := by
    refine ⟨⟨by omega, fun i hi => by omega, rfl, by omega⟩, h04, ⟨z4 0 (by omega), by omega, fun s hs => by omega, z4 1 (by omega), by omega, fun s hs => by omega, z4 2 (by omega), by omega, fun s hs => by omega, z4 4 (by omega), by omega, fun s hs => by omega⟩, ⟨by decide, ?_, ?_, ?_, fun i hi => by omega, fun i hi => by omega, fun i hi => by omega, fun i hi => by omega, fun i hi => by omega⟩, ⟨by decide, ?_, fun i hi => by omega, fun i hi => by omega, fun i hi => by omega, fun i hi => by omega⟩, ⟨?_, ?_, ?_, z4 3 (by omega)⟩, fun i h1 h2 => z4 _ (by omega)⟩
    · rw [g 3 (by omega)]; exact k2
    · rw [g 3 (by omega)]; exact k3
    · rw [g 3 (by omega)]; exact k4
    · rw [g 14 (by omega)]; exact k5
    · rw [g 23 (by omega)]; exact k6
    · rw [g 30 (by omega)]; exact k7
    · rw [g 30 (by omega)]; exact k8
  obtain ⟨x, ρ, υ, c1, c2, c3, c4, c5⟩ := stmt_sim (x := 1) hB3 n2 hD P1 rfl (Or.inl ⟨rfl, rfl⟩)
  -- the loop
  have loop : ∃ y z ρ' υ', fX6_firstError_l23 1 FU x (0 : Int32) ρ = some (y, z, ρ') ∧ fX12_readsText_l42 FU υ = some υ' ∧ frQ ρ ρ' ∧ frP υ υ' ∧ Fin B m ρ' υ' y := by
    rcases c5 with ⟨rfl, k', n', a', b', s', p', g1, g2, g3, g4, g5, g6⟩ | ⟨rfl, s', g1, g2, g3⟩
    · exact text_l m FU FU 0 s' p' k' n' a' b' ρ υ (by omega) (by unfold FU; omega) (by unfold FU; omega) (frQ_BC c3 hB3) g3 g2 g1 g4 g5 (by omega)
    · refine ⟨0, 0, ρ, υ, ?_, ?_, fun _ _ => rfl, fun _ _ _ => rfl, Or.inr ⟨rfl, s', g1, g2, g3⟩⟩
      · rw [show FU = 4095 + 1 from rfl, fX6_firstError_l23]
        unfold fX8_size
        rw [Option.bind_some, if_pos (show (0 : Int32) = 0 from rfl)]
        split <;> rfl
      · rw [show FU = 4095 + 1 from rfl, fX12_readsText_l42, r_notf g3 g1, Option.bind_some, if_pos (show ι 0 = (0 : Int32) from rfl)]
  obtain ⟨y, z', ρ', υ', l1, l2, l3, l4, l5⟩ := loop
  have fQ : frQ σ ρ' := frQ_trans f3 (frQ_trans c3 l3)
  have fP : frP τ υ' := frP_trans fp1 (frP_trans c4 l4)
  have eC : fX6_firstError 1 σ = if y = 0 then some (ρ' 1 3, ρ') else if ρ' 1 2 = 0 then some ((-1 : Int32), ρ') else some (ρ' 1 3, ρ') := by
    unfold fX6_firstError
    rw [show 1 + 1 = 2 from rfl, k1, Option.bind_some, n1, Option.bind_some, c1, Option.bind_some, l1, Option.bind_some]
  have eR : fX12_readsText τ = fX12_readsText_j76 υ' := by
    unfold fX12_readsText
    rw [r1, Option.bind_some, c2, Option.bind_some, l2, Option.bind_some]
  rw [eC, eR]
  unfold fX12_readsText_j76
  rcases l5 with ⟨rfl, k', n', a', b', s', p', g1, g2, g3, g4, g5⟩ | ⟨rfl, s', g1, g2, g3⟩
  · have hs' := g3.1
    have hkl := Kd_lt B m s'
    rw [if_neg (show ¬ (1 : Int32) = 0 by decide), g3.2.1, g3.2.2.1, r_fine g4.2.2.2, Option.bind_some, if_neg (show ¬ ι 1 = (0 : Int32) by decide)]
    obtain ⟨ω, o1, o2, o3, o4⟩ := r_look g4.1 g4.2.1 g4.2.2.1
    rw [g5] at o1 o2 o3
    have o15 : ω 0 15 = μ := (o4 0 15 (by omega)).trans g4.2.2.2
    have fP2 : frP τ ω := frP_trans fP (frP_M (frL_M o4))
    rw [o1, Option.bind_some]
    by_cases hend : m ≤ s'
    · refine ⟨μ, ρ', ω, ?_, ?_, fQ, fP2, Or.inl ⟨rfl, k', n', a', b', g1, DR_1 g2 (fun _ _ => rfl) (frL_M o4)⟩⟩
      · rw [if_pos (show ι (Kd B m s') = (0 : Int32) by rw [Kd_0.mpr hend]; rfl)]; rfl
      · refine (if_pos (show bv B m s' < (0 : Int32) by unfold bv; rw [if_pos hend]; decide)).trans ?_
        show (if (0 : Int32) ≤ ω 0 15 then some (ω 0 15, ω) else some ((-1 : Int32), ω)) = _
        rw [o15, if_neg (by decide)]; rfl
    · have hb := (hR.2.2 s' (by omega)).1
      have hk0 : ¬ Kd B m s' = 0 := fun z => hend (Kd_0.mp z)
      refine ⟨ι s', ρ', up ω 0 15 (ι s'), ?_, ?_, fQ, fun k j hk => ?_, Or.inr ⟨s', by omega, rfl⟩⟩
      · rw [if_neg (show ¬ ι (Kd B m s') = (0 : Int32) by rw [l_0, ι_eq (by omega) (by omega)]; exact hk0)]
      · refine (if_neg (show ¬ bv B m s' < (0 : Int32) by unfold bv; rw [if_neg hend, l_0, ι_lt (by omega) (by omega)]; omega)).trans ?_
        show (fX12_wrongAt (ω 0 14) ω).bind (fun v95 => if (0 : Int32) ≤ v95 0 15 then some (v95 0 15, v95) else some ((-1 : Int32), v95)) = _
        rw [r_wrong o15, Option.bind_some, o3, up_e, if_pos (show (0 : Int32) ≤ ι s' by rw [l_0, ι_le (by omega) (by omega)]; omega)]
      · rw [up_g, if_neg (by omega)]; exact fP2 k j hk
  · rw [if_pos (show (0 : Int32) = 0 from rfl), g2, r_notf g3 g1, Option.bind_some, if_pos (show ι 0 = (0 : Int32) from rfl), g3, if_pos (show (0 : Int32) ≤ ι s' by rw [l_0, ι_le (by omega) (by omega)]; omega)]
    exact ⟨ι s', ρ', υ', rfl, rfl, fQ, fP, Or.inr ⟨s', g1, rfl⟩⟩
