/-! PURE PART: the two memories at the start -/
def st_σ : Mem := up (up (up (up (up Z0 46 0 (0 : Int32)) 46 1 (0 : Int32)) 44 0 (2 : Int32)) 42 5 (1 : Int32)) 42 6 (2 : Int32)
def st_τ : Mem := up (up ZR 2 (0 : Int32).toNatClampNeg 2) 0 4 1
theorem st_put {v i : Nat} {x : Int32} {σ : Mem} (h : i < ln (v + 1)) (h2 : ln (v + 1) < 1000) : fX3_put v (ι i) x σ = some (up σ (v + 1) i x) := by
  unfold fX3_put
  have e1 : Int32.ofNat (ln (v + 1)) = ι (ln (v + 1)) := rfl
  rw [e1, if_neg (by rw [l_0, ι_lt (by omega) (by omega)]; omega), if_neg (by rw [ι_le (by omega) (by omega)]; omega), if_neg (by rw [l_0, ι_lt (by omega) (by omega), ι_n (by omega)]; omega), ι_n (by omega)]
theorem st_add : fX10_addQuire (0 + 42) 2 Z0 = some st_σ := by
  unfold fX10_addQuire
  have t1 : fX10_takesQuire (0 + 42) Z0 = some 1 := by unfold fX10_takesQuire; rw [if_neg (by decide)]
  have t2 : fX10_takesLeaves (0 + 42) 2 Z0 = some 1 := by unfold fX10_takesLeaves; rw [if_neg (by decide), if_neg (by decide), if_pos (by decide), if_neg (by decide)]
  have t3 : fX10_addQuire_l17 (0 + 42) 2 FU 0 Z0 = some (2, up (up Z0 46 0 (0 : Int32)) 46 1 (0 : Int32)) := by
    have eF : FU = 4093 + 1 + 1 + 1 := rfl
    rw [eF, fX10_addQuire_l17, if_neg (by decide)]
    have p1 : fX3_put (0 + 42 + 3) (Z0 (0 + 42) 6 + 0) 0 Z0 = some (up Z0 46 0 (0 : Int32)) := st_put (v := 45) (i := 0) (by decide) (by decide)
    rw [p1, Option.bind_some, fX10_addQuire_l17, if_neg (by decide)]
    have p2 : fX3_put (0 + 42 + 3) ((up Z0 46 0 (0 : Int32)) (0 + 42) 6 + (0 + 1)) 0 (up Z0 46 0 (0 : Int32)) = some (up (up Z0 46 0 (0 : Int32)) 46 1 (0 : Int32)) := st_put (v := 45) (i := 1) (by decide) (by decide)
    rw [p2, Option.bind_some, fX10_addQuire_l17, if_pos (by decide)]
    rfl
  have p3 : fX3_put (0 + 42 + 1) ((up (up Z0 46 0 (0 : Int32)) 46 1 (0 : Int32)) (0 + 42) 5) 2 (up (up Z0 46 0 (0 : Int32)) 46 1 (0 : Int32)) = some (up (up (up Z0 46 0 (0 : Int32)) 46 1 (0 : Int32)) 44 0 (2 : Int32)) := st_put (v := 43) (i := 0) (by decide) (by decide)
  rw [t1, Option.bind_some, if_neg (by decide), t2, Option.bind_some, if_neg (by decide), t3, Option.bind_some]
  show (fX3_put (0 + 42 + 1) ((up (up Z0 46 0 (0 : Int32)) 46 1 (0 : Int32)) (0 + 42) 5) 2 (up (up Z0 46 0 (0 : Int32)) 46 1 (0 : Int32))).bind _ = _
  rw [p3, Option.bind_some]
  rfl
theorem st_11 : ∀ i, i < 13 → st_τ 11 i = ι (romL.getD i 0) := by decide +kernel
theorem st_4 (j : Nat) : st_τ 4 j = ι 0 := by
  unfold st_τ
  rw [up_k _ _ _ _ _ (by omega), up_k _ _ _ _ _ (by omega)]
  exact ZR_o j (by omega)
theorem st_rel : ∃ υ, fX12_begins st_τ = some υ ∧ Rel st_σ υ := by
  obtain ⟨υ, b0, b1, b2, b3, b4, b5, b6⟩ := r_begins st_τ
  have e4 : ∀ j, j < 339 → υ 3 j = ι 0 := fun j hj => (b2 j hj).trans (st_4 j)
  have e1 : υ 1 0 = ι 2 := (b1 0 (by omega)).trans (by decide)
  have eq : qN (υ 1) 0 = 2 := by unfold qN; rw [e1, nn_ι (by omega)]
  refine ⟨υ, b0, 1, 2, ⟨⟨by omega, by omega, fun i hi => ?_, ?_, by omega⟩, b3.trans (by decide), ⟨0, 0, by omega, by omega, by decide, by decide, b4, fun i hi => by omega⟩, Or.inl ⟨by decide, b5⟩, ⟨0, by omega, by decide, (b6 0 12 (by omega)).trans (by decide), fun i hi => by omega⟩, ⟨0, by omega, by decide, (b6 0 20 (by omega)).trans (by decide), fun i hi => by omega⟩, ⟨0, by omega, by decide⟩, ⟨0, by omega, by decide⟩, fun i hi => (b6 11 i (by omega)).trans (st_11 i hi)⟩, 0, 0, 0, 0, ⟨e4 0 (by omega), by omega, fun i hi => by omega, e4 1 (by omega), by omega, fun i hi => by omega, e4 2 (by omega), by omega, fun i hi => by omega, e4 4 (by omega), by omega, fun i hi => Or.inl (e4 (279 + i) (by omega))⟩, ⟨⟨by decide, by decide, by decide, by decide, fun i hi => ?_, fun i hi => ?_, fun i hi => by omega, fun i hi => by omega, fun i hi => by omega⟩, ⟨by decide, by decide, fun i hi => by omega, fun i hi => by omega, fun i hi => by omega, fun i hi => by omega⟩, ⟨by decide, by decide, fun i hi => by omega, fun i hi => by omega, fun i hi => by omega⟩, ⟨by decide, by decide, ?_, fun i hi => by omega⟩⟩⟩
  · have e : i = 0 := by omega
    rw [e, eq, e1]; exact ⟨rfl, by omega, by omega⟩
  · show qN (υ 1) 0 + 0 = 2
    rw [eq]
  · have e : i = 0 := by omega
    rw [e, e1]; decide
  · rw [e4 _ (by omega)]
    have e : i = 0 ∨ i = 1 := by omega
    rcases e with rfl | rfl <;> decide
  · rw [e4 3 (by omega)]; decide
