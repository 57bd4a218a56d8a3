/-! the reference, by program out of the bytecode -/
def fX12_isNeedless (x1 : Int32) (σ : Mem) : Option (Int32 × Mem) :=
  (fX12_laysShown x1 σ).bind fun v2 => if (0 : Int32) < 0 ∨ lm 12 ≤ (0 : Int32).toNatClampNeg then none else if (1 : Int32) < 0 ∨ lm 12 ≤ (1 : Int32).toNatClampNeg then none else if (v2 12 (0 : Int32).toNatClampNeg) = (-1 : Int32) then (if (v2 12 (1 : Int32).toNatClampNeg) = (-1 : Int32) then (some ((1 : Int32), v2)) else ((fX12_isElsewhere (v2 12 (1 : Int32).toNatClampNeg) x1 v2).bind fun v41 => if v41.1 = 0 then (some ((0 : Int32), v41.2)) else (some ((1 : Int32), v41.2)))) else ((fX12_isElsewhere (v2 12 (0 : Int32).toNatClampNeg) x1 v2).bind fun v27 => if v27.1 = 0 then (some ((0 : Int32), v27.2)) else (if (v2 12 (1 : Int32).toNatClampNeg) = (-1 : Int32) then (some ((1 : Int32), v27.2)) else ((fX12_isElsewhere (v2 12 (1 : Int32).toNatClampNeg) x1 v27.2).bind fun v41 => if v41.1 = 0 then (some ((0 : Int32), v41.2)) else (some ((1 : Int32), v41.2)))))
set_option maxRecDepth 100000 in
set_option maxHeartbeats 4000000 in
theorem mX12_isNeedless {l : Launch} {E : Ev} {b : Nat} (x1 : Int32) (σ : Mem) (r : (Int32 × Mem)) (h : fX12_isNeedless x1 σ = some r) : Met l yX12_isNeedless (tw yX12_isNeedless cX12_isNeedless 4 (some .boolean)) { frames := 4, cells := 0, slots := 0, locals := 91 } (va_Pc [.ref (b + 0), .int x1] (Pr l E (LM E b) σ)) (Qz E (LM E b) (some (.int r.1)) r.2) 0 0 (La (LM E b)) := by
  refine ct_of (by decide) (Nat.le_of_ble_eq_true rfl) ?_
  intro p e s m below meth c C hW hS ls hl
  have hx0 := C.1
  have hb := C.2.1
  have hl : lv_has ls 4 [(0, .ref (b + 0)), (1, .int x1)] := hl
  unfold fX12_isNeedless at h
  refine lv_aload_n hx0 hb dX12_isNeedless_0 rfl (lv_at hl 0 rfl) ?_
  refine lv_iload_n hx0 hb dX12_isNeedless_1 rfl (lv_at hl 1 rfl) ?_
  obtain ⟨v2, h2, h⟩ := bnd h
  try dsimp only at h
  refine w_callV (L := (LM E b)) (k := 0) (As := [.int x1]) (rest := []) C hW hS (show 0 < 18 by decide) cm0 kcX12 (mX12_laysShown x1  σ v2 h2) cwX12_laysShown cvX12_laysShown rfl mlX12_275 ⟨by decide, by decide⟩ rfl hl.1 (Nat.le_of_ble_eq_true rfl) ⟨by decide, by decide⟩ dX12_isNeedless_2 rfl (fun H locs hW hS => ?_)
  refine lv_aload_n hx0 hb dX12_isNeedless_5 rfl (lv_at hl 0 rfl) ?_
  refine gtX12_23 C hW flX12_48 dX12_isNeedless_6 ?_
  refine lv_iconst (v := (0 : Int32)) hx0 hb dX12_isNeedless_9 (by decide) ?_
  by_cases z10 : (0 : Int32) < 0 ∨ lm 12 ≤ (0 : Int32).toNatClampNeg
  · rw [if_pos z10] at h; cases h
  rw [if_neg z10] at h
  refine ldIm (k := 12) C hW (by decide) z10 dX12_isNeedless_10 ?_
  refine lv_istore_n (lv' := [(2, .int (v2 12 (0 : Int32).toNatClampNeg)), (0, .ref (b + 0)), (1, .int x1)]) hx0 hb dX12_isNeedless_11 rfl hl (by decide) rfl (fun ls hl => ?_)
  refine lv_aload_n hx0 hb dX12_isNeedless_12 rfl (lv_at hl 1 rfl) ?_
  refine gtX12_23 C hW flX12_48 dX12_isNeedless_13 ?_
  refine lv_iconst (v := (1 : Int32)) hx0 hb dX12_isNeedless_16 (by decide) ?_
  by_cases z17 : (1 : Int32) < 0 ∨ lm 12 ≤ (1 : Int32).toNatClampNeg
  · rw [if_pos z17] at h; cases h
  rw [if_neg z17] at h
  refine ldIm (k := 12) C hW (by decide) z17 dX12_isNeedless_17 ?_
  refine lv_istore_n (lv' := [(3, .int (v2 12 (1 : Int32).toNatClampNeg)), (2, .int (v2 12 (0 : Int32).toNatClampNeg)), (0, .ref (b + 0)), (1, .int x1)]) hx0 hb dX12_isNeedless_18 rfl hl (by decide) rfl (fun ls hl => ?_)
  refine lv_iload_n hx0 hb dX12_isNeedless_19 rfl (lv_at hl 1 rfl) ?_
  refine lv_iconst (v := (-1 : Int32)) hx0 hb dX12_isNeedless_20 (by decide) ?_
  refine lv_icmp_eq (tgt := 33) hx0 hb dX12_isNeedless_21 (by decide) (fun c21 => ?_) (fun c21 => ?_)
  · rw [if_pos c21] at h
    refine lv_iload_n hx0 hb dX12_isNeedless_33 rfl (lv_at hl 0 rfl) ?_
    refine lv_iconst (v := (-1 : Int32)) hx0 hb dX12_isNeedless_34 (by decide) ?_
    refine lv_icmp_eq (tgt := 47) hx0 hb dX12_isNeedless_35 (by decide) (fun c35 => ?_) (fun c35 => ?_)
    · rw [if_pos c35] at h
      refine lv_iconst (v := (1 : Int32)) hx0 hb dX12_isNeedless_47 (by decide) ?_
      refine lv_goto (tgt := 52) hx0 hb dX12_isNeedless_48 (by decide) ?_
      cases h
      exact w_zret C hW hS (Or.inr rfl) dX12_isNeedless_52
    · rw [if_neg c35] at h
      refine lv_aload_n hx0 hb dX12_isNeedless_38 rfl (lv_at hl 2 rfl) ?_
      refine lv_iload_n hx0 hb dX12_isNeedless_39 rfl (lv_at hl 0 rfl) ?_
      refine lv_iload_n hx0 hb dX12_isNeedless_40 rfl (lv_at hl 3 rfl) ?_
      obtain ⟨v41, h41, h⟩ := bnd h
      try dsimp only at h
      refine w_callV (L := (LM E b)) (k := 0) (As := [.int (v2 12 (1 : Int32).toNatClampNeg), .int x1]) (rest := []) C hW hS (show 0 < 18 by decide) cm0 kcX12 (mX12_isElsewhere (v2 12 (1 : Int32).toNatClampNeg) x1  v2 v41 h41) cwX12_isElsewhere cvX12_isElsewhere rfl mlX12_396 ⟨by decide, by decide⟩ rfl hl.1 (Nat.le_of_ble_eq_true rfl) ⟨by decide, by decide⟩ dX12_isNeedless_41 rfl (fun H locs hW hS => ?_)
      refine lv_if_eq (tgt := 51) hx0 hb dX12_isNeedless_44 (by decide) (fun c44 => ?_) (fun c44 => ?_)
      · rw [if_pos c44] at h
        refine lv_iconst (v := (0 : Int32)) hx0 hb dX12_isNeedless_51 (by decide) ?_
        cases h
        exact w_zret C hW hS (Or.inl rfl) dX12_isNeedless_52
      · rw [if_neg c44] at h
        refine lv_iconst (v := (1 : Int32)) hx0 hb dX12_isNeedless_47 (by decide) ?_
        refine lv_goto (tgt := 52) hx0 hb dX12_isNeedless_48 (by decide) ?_
        cases h
        exact w_zret C hW hS (Or.inr rfl) dX12_isNeedless_52
  · rw [if_neg c21] at h
    refine lv_aload_n hx0 hb dX12_isNeedless_24 rfl (lv_at hl 2 rfl) ?_
    refine lv_iload_n hx0 hb dX12_isNeedless_25 rfl (lv_at hl 1 rfl) ?_
    refine lv_iload_n hx0 hb dX12_isNeedless_26 rfl (lv_at hl 3 rfl) ?_
    obtain ⟨v27, h27, h⟩ := bnd h
    try dsimp only at h
    refine w_callV (L := (LM E b)) (k := 0) (As := [.int (v2 12 (0 : Int32).toNatClampNeg), .int x1]) (rest := []) C hW hS (show 0 < 18 by decide) cm0 kcX12 (mX12_isElsewhere (v2 12 (0 : Int32).toNatClampNeg) x1  v2 v27 h27) cwX12_isElsewhere cvX12_isElsewhere rfl mlX12_396 ⟨by decide, by decide⟩ rfl hl.1 (Nat.le_of_ble_eq_true rfl) ⟨by decide, by decide⟩ dX12_isNeedless_27 rfl (fun H locs hW hS => ?_)
    refine lv_if_eq (tgt := 51) hx0 hb dX12_isNeedless_30 (by decide) (fun c30 => ?_) (fun c30 => ?_)
    · rw [if_pos c30] at h
      refine lv_iconst (v := (0 : Int32)) hx0 hb dX12_isNeedless_51 (by decide) ?_
      cases h
      exact w_zret C hW hS (Or.inl rfl) dX12_isNeedless_52
    · rw [if_neg c30] at h
      refine lv_iload_n hx0 hb dX12_isNeedless_33 rfl (lv_at hl 0 rfl) ?_
      refine lv_iconst (v := (-1 : Int32)) hx0 hb dX12_isNeedless_34 (by decide) ?_
      refine lv_icmp_eq (tgt := 47) hx0 hb dX12_isNeedless_35 (by decide) (fun c35 => ?_) (fun c35 => ?_)
      · rw [if_pos c35] at h
        refine lv_iconst (v := (1 : Int32)) hx0 hb dX12_isNeedless_47 (by decide) ?_
        refine lv_goto (tgt := 52) hx0 hb dX12_isNeedless_48 (by decide) ?_
        cases h
        exact w_zret C hW hS (Or.inr rfl) dX12_isNeedless_52
      · rw [if_neg c35] at h
        refine lv_aload_n hx0 hb dX12_isNeedless_38 rfl (lv_at hl 2 rfl) ?_
        refine lv_iload_n hx0 hb dX12_isNeedless_39 rfl (lv_at hl 0 rfl) ?_
        refine lv_iload_n hx0 hb dX12_isNeedless_40 rfl (lv_at hl 3 rfl) ?_
        obtain ⟨v41, h41, h⟩ := bnd h
        try dsimp only at h
        refine w_callV (L := (LM E b)) (k := 0) (As := [.int (v2 12 (1 : Int32).toNatClampNeg), .int x1]) (rest := []) C hW hS (show 0 < 18 by decide) cm0 kcX12 (mX12_isElsewhere (v2 12 (1 : Int32).toNatClampNeg) x1  v27.2 v41 h41) cwX12_isElsewhere cvX12_isElsewhere rfl mlX12_396 ⟨by decide, by decide⟩ rfl hl.1 (Nat.le_of_ble_eq_true rfl) ⟨by decide, by decide⟩ dX12_isNeedless_41 rfl (fun H locs hW hS => ?_)
        refine lv_if_eq (tgt := 51) hx0 hb dX12_isNeedless_44 (by decide) (fun c44 => ?_) (fun c44 => ?_)
        · rw [if_pos c44] at h
          refine lv_iconst (v := (0 : Int32)) hx0 hb dX12_isNeedless_51 (by decide) ?_
          cases h
          exact w_zret C hW hS (Or.inl rfl) dX12_isNeedless_52
        · rw [if_neg c44] at h
          refine lv_iconst (v := (1 : Int32)) hx0 hb dX12_isNeedless_47 (by decide) ?_
          refine lv_goto (tgt := 52) hx0 hb dX12_isNeedless_48 (by decide) ?_
          cases h
          exact w_zret C hW hS (Or.inr rfl) dX12_isNeedless_52
def fX12_needless_l11 : Nat → Int32 → Mem → Option (Int32 × Mem)
  | 0, _, _ => none
  | n + 1, x1, σ => if (60 : Int32) ≤ x1 then (some (x1, σ)) else (if x1 < 0 ∨ lm 17 ≤ x1.toNatClampNeg then none else fX12_needless_l11 n (x1 + (1 : Int32)) (up σ 17 x1.toNatClampNeg (vp_nar .boolean (0 : Int32))))
set_option maxRecDepth 100000 in
set_option maxHeartbeats 4000000 in
theorem bX12_needless_l11 {p : Program} {l : Launch} {e : Env} {s : State} {m : MethodId} {args : Array Value} {below : List Frame} {meth : Method} {c : Code} {E : Ev} {b : Nat} (C : Cx p l s m args meth c E cX12_needless 3 RX12 (some .int)) {Qf : State → Prop} {q : Int32 × Mem} (hx : ∀ H locs ls, Wd E (LM E b) q.2 H → va_S (La (LM E b)) s.heap H locs → lv_has ls 3 [(0, .ref (b + 0)), (1, .int q.1)] → W p l e { frames := 5, cells := 0, slots := 0, locals := 114 } s m args below meth c H locs 0 0 Qf (F0 m 30 ls [])) : ∀ (n : Nat) (x1 : Int32) (σ : Mem), fX12_needless_l11 n x1 σ = some q → ∀ (H : Heap) (locs : List Loc) (ls : Array Slot), Wd E (LM E b) σ H → va_S (La (LM E b)) s.heap H locs → lv_has ls 3 [(0, .ref (b + 0)), (1, .int x1)] → W p l e { frames := 5, cells := 0, slots := 0, locals := 114 } s m args below meth c H locs 0 0 Qf (F0 m 11 ls []) := by
  have hx0 := C.1
  have hb := C.2.1
  intro n
  induction n with
  | zero => intro x1 σ h; simp [fX12_needless_l11] at h
  | succ n ih =>
    intro x1 σ h H locs ls hW hS hl
    unfold fX12_needless_l11 at h
    refine lv_iload_n hx0 hb dX12_needless_11 rfl (lv_at hl 1 rfl) ?_
    refine lv_bipush (v := (60 : Int32)) hx0 hb dX12_needless_12 (by decide) ?_
    refine lv_icmp_ge (tgt := 30) hx0 hb dX12_needless_14 (by decide) (fun c14 => ?_) (fun c14 => ?_)
    · rw [if_pos c14] at h
      cases h
      exact hx _ _ _ hW hS (lv_sub hl [0, 1] rfl)
    · rw [if_neg c14] at h
      refine lv_aload_n hx0 hb dX12_needless_17 rfl (lv_at hl 0 rfl) ?_
      refine gtX12_29 C hW flX12_63 dX12_needless_18 ?_
      refine lv_iload_n hx0 hb dX12_needless_21 rfl (lv_at hl 1 rfl) ?_
      refine lv_iconst (v := (0 : Int32)) hx0 hb dX12_needless_22 (by decide) ?_
      by_cases z23 : x1 < 0 ∨ lm 17 ≤ x1.toNatClampNeg
      · rw [if_pos z23] at h; cases h
      rw [if_neg z23] at h
      refine saZm (k := 17) C hW hS (by decide) z23 dX12_needless_23 (fun H locs hW hS => ?_)
      refine lv_iinc (v := x1 + (1 : Int32)) (lv' := [(1, .int (x1 + (1 : Int32))), (0, .ref (b + 0))]) hx0 hb dX12_needless_24 hl (k := 1) rfl rfl (by decide) rfl (fun ls hl => ?_)
      refine lv_goto (tgt := 11) hx0 hb dX12_needless_27 (by decide) ?_
      exact ih (x1 + (1 : Int32)) (up σ 17 x1.toNatClampNeg (vp_nar .boolean (0 : Int32))) h _ _ _ hW hS (lv_sub hl [1, 0] rfl)
def fX12_needless_l41 : Nat → Int32 → Int32 → Mem → Option (Int32 × Int32 × Mem)
  | 0, _, _, _ => none
  | n + 1, x1, x2, σ => if x2 < 0 then (some (x1, x2, σ)) else ((fX12_isNeedless x2 σ).bind fun v52 => if x2 < 0 ∨ lm 17 ≤ x2.toNatClampNeg then none else if x2 < 0 ∨ lm 17 ≤ x2.toNatClampNeg then none else if ((up v52.2 17 x2.toNatClampNeg (vp_nar .boolean v52.1)) 17 x2.toNatClampNeg) = 0 then (fX12_needless_l41 n (x1 + (0 : Int32)) (x2 + (-1 : Int32)) (up v52.2 17 x2.toNatClampNeg (vp_nar .boolean v52.1))) else (fX12_needless_l41 n (x1 + (1 : Int32)) (x2 + (-1 : Int32)) (up v52.2 17 x2.toNatClampNeg (vp_nar .boolean v52.1))))
set_option maxRecDepth 100000 in
set_option maxHeartbeats 4000000 in
theorem bX12_needless_l41 {p : Program} {l : Launch} {e : Env} {s : State} {m : MethodId} {args : Array Value} {below : List Frame} {meth : Method} {c : Code} {E : Ev} {b : Nat} (C : Cx p l s m args meth c E cX12_needless 3 RX12 (some .int)) {Qf : State → Prop} {q : Int32 × Int32 × Mem} (hx : ∀ H locs ls, Wd E (LM E b) q.2.2 H → va_S (La (LM E b)) s.heap H locs → lv_has ls 3 [(0, .ref (b + 0)), (1, .int q.1), (2, .int q.2.1)] → W p l e { frames := 5, cells := 0, slots := 0, locals := 114 } s m args below meth c H locs 0 0 Qf (F0 m 79 ls [])) : ∀ (n : Nat) (x1 : Int32) (x2 : Int32) (σ : Mem), fX12_needless_l41 n x1 x2 σ = some q → ∀ (H : Heap) (locs : List Loc) (ls : Array Slot), Wd E (LM E b) σ H → va_S (La (LM E b)) s.heap H locs → lv_has ls 3 [(0, .ref (b + 0)), (1, .int x1), (2, .int x2)] → W p l e { frames := 5, cells := 0, slots := 0, locals := 114 } s m args below meth c H locs 0 0 Qf (F0 m 41 ls []) := by
  have hx0 := C.1
  have hb := C.2.1
  intro n
  induction n with
  | zero => intro x1 x2 σ h; simp [fX12_needless_l41] at h
  | succ n ih =>
    intro x1 x2 σ h H locs ls hW hS hl
    unfold fX12_needless_l41 at h
    refine lv_iload_n hx0 hb dX12_needless_41 rfl (lv_at hl 2 rfl) ?_
    refine lv_if_lt (tgt := 79) hx0 hb dX12_needless_42 (by decide) (fun c42 => ?_) (fun c42 => ?_)
    · rw [if_pos c42] at h
      cases h
      exact hx _ _ _ hW hS (lv_sub hl [0, 1, 2] rfl)
    · rw [if_neg c42] at h
      refine lv_aload_n hx0 hb dX12_needless_45 rfl (lv_at hl 0 rfl) ?_
      refine gtX12_29 C hW flX12_63 dX12_needless_46 ?_
      refine lv_iload_n hx0 hb dX12_needless_49 rfl (lv_at hl 2 rfl) ?_
      refine lv_aload_n hx0 hb dX12_needless_50 rfl (lv_at hl 0 rfl) ?_
      refine lv_iload_n hx0 hb dX12_needless_51 rfl (lv_at hl 2 rfl) ?_
      obtain ⟨v52, h52, h⟩ := bnd h
      try dsimp only at h
      refine w_callV (L := (LM E b)) (k := 0) (As := [.int x2]) (rest := [.int x2, .ref (b + 17)]) C hW hS (show 0 < 18 by decide) cm0 kcX12 (mX12_isNeedless x2  σ v52 h52) cwX12_isNeedless cvX12_isNeedless rfl mlX12_399 ⟨by decide, by decide⟩ rfl hl.1 (Nat.le_of_ble_eq_true rfl) ⟨by decide, by decide⟩ dX12_needless_52 rfl (fun H locs hW hS => ?_)
      by_cases z55 : x2 < 0 ∨ lm 17 ≤ x2.toNatClampNeg
      · rw [if_pos z55] at h; cases h
      rw [if_neg z55] at h
      refine saZm (k := 17) C hW hS (by decide) z55 dX12_needless_55 (fun H locs hW hS => ?_)
      refine lv_iload_n hx0 hb dX12_needless_56 rfl (lv_at hl 1 rfl) ?_
      refine lv_aload_n hx0 hb dX12_needless_57 rfl (lv_at hl 0 rfl) ?_
      refine gtX12_29 C hW flX12_63 dX12_needless_58 ?_
      refine lv_iload_n hx0 hb dX12_needless_61 rfl (lv_at hl 2 rfl) ?_
      by_cases z62 : x2 < 0 ∨ lm 17 ≤ x2.toNatClampNeg
      · rw [if_pos z62] at h; cases h
      rw [if_neg z62] at h
      refine ldZm (k := 17) C hW (by decide) z62 dX12_needless_62 ?_
      refine lv_if_eq (tgt := 70) hx0 hb dX12_needless_63 (by decide) (fun c63 => ?_) (fun c63 => ?_)
      · rw [if_pos c63] at h
        refine lv_iconst (v := (0 : Int32)) hx0 hb dX12_needless_70 (by decide) ?_
        refine lv_iadd hx0 hb dX12_needless_71 ?_
        refine lv_istore_n (lv' := [(1, .int (x1 + (0 : Int32))), (0, .ref (b + 0)), (2, .int x2)]) hx0 hb dX12_needless_72 rfl hl (by decide) rfl (fun ls hl => ?_)
        refine lv_iinc (v := x2 + (-1 : Int32)) (lv' := [(2, .int (x2 + (-1 : Int32))), (1, .int (x1 + (0 : Int32))), (0, .ref (b + 0))]) hx0 hb dX12_needless_73 hl (k := 2) rfl rfl (by decide) rfl (fun ls hl => ?_)
        refine lv_goto (tgt := 41) hx0 hb dX12_needless_76 (by decide) ?_
        exact ih (x1 + (0 : Int32)) (x2 + (-1 : Int32)) (up v52.2 17 x2.toNatClampNeg (vp_nar .boolean v52.1)) h _ _ _ hW hS (lv_sub hl [2, 1, 0] rfl)
      · rw [if_neg c63] at h
        refine lv_iconst (v := (1 : Int32)) hx0 hb dX12_needless_66 (by decide) ?_
        refine lv_goto (tgt := 71) hx0 hb dX12_needless_67 (by decide) ?_
        refine lv_iadd hx0 hb dX12_needless_71 ?_
        refine lv_istore_n (lv' := [(1, .int (x1 + (1 : Int32))), (0, .ref (b + 0)), (2, .int x2)]) hx0 hb dX12_needless_72 rfl hl (by decide) rfl (fun ls hl => ?_)
        refine lv_iinc (v := x2 + (-1 : Int32)) (lv' := [(2, .int (x2 + (-1 : Int32))), (1, .int (x1 + (1 : Int32))), (0, .ref (b + 0))]) hx0 hb dX12_needless_73 hl (k := 2) rfl rfl (by decide) rfl (fun ls hl => ?_)
        refine lv_goto (tgt := 41) hx0 hb dX12_needless_76 (by decide) ?_
        exact ih (x1 + (1 : Int32)) (x2 + (-1 : Int32)) (up v52.2 17 x2.toNatClampNeg (vp_nar .boolean v52.1)) h _ _ _ hW hS (lv_sub hl [2, 1, 0] rfl)
def fX12_needless (σ : Mem) : Option (Int32 × Mem) :=
  (fX12_laysOrder (up σ 0 0 (0 : Int32))).bind fun v6 => (fX12_needless_l11 FU (0 : Int32) v6).bind fun q11 => if (2 : Int32) < 0 ∨ lm 3 ≤ (2 : Int32).toNatClampNeg then none else (fX12_needless_l41 FU (0 : Int32) ((q11.2 3 (2 : Int32).toNatClampNeg) - (1 : Int32)) q11.2).bind fun q41 => some (q41.1, q41.2.2)
set_option maxRecDepth 100000 in
set_option maxHeartbeats 4000000 in
theorem mX12_needless {l : Launch} {E : Ev} {b : Nat} (σ : Mem) (r : (Int32 × Mem)) (h : fX12_needless σ = some r) : Met l yX12_needless (tw yX12_needless cX12_needless 3 (some .int)) { frames := 5, cells := 0, slots := 0, locals := 114 } (va_Pc [.ref (b + 0)] (Pr l E (LM E b) σ)) (Qz E (LM E b) (some (.int r.1)) r.2) 0 0 (La (LM E b)) := by
  refine ct_of (by decide) (Nat.le_of_ble_eq_true rfl) ?_
  intro p e s m below meth c C hW hS ls hl
  have hx0 := C.1
  have hb := C.2.1
  have hl : lv_has ls 3 [(0, .ref (b + 0))] := hl
  unfold fX12_needless at h
  refine lv_aload_n hx0 hb dX12_needless_0 rfl (lv_at hl 0 rfl) ?_
  refine lv_iconst (v := (0 : Int32)) hx0 hb dX12_needless_1 (by decide) ?_
  refine ptX12_0 C hW hS flX12_3 dX12_needless_2 (fun H locs hW hS => ?_)
  refine lv_aload_n hx0 hb dX12_needless_5 rfl (lv_at hl 0 rfl) ?_
  obtain ⟨v6, h6, h⟩ := bnd h
  try dsimp only at h
  refine w_callV (L := (LM E b)) (k := 0) (As := []) (rest := []) C hW hS (show 0 < 18 by decide) cm0 kcX12 (mX12_laysOrder   (up σ 0 0 (0 : Int32)) v6 h6) cwX12_laysOrder cvX12_laysOrder rfl mlX12_239 ⟨by decide, by decide⟩ rfl hl.1 (Nat.le_of_ble_eq_true rfl) ⟨by decide, by decide⟩ dX12_needless_6 rfl (fun H locs hW hS => ?_)
  refine lv_iconst (v := (0 : Int32)) hx0 hb dX12_needless_9 (by decide) ?_
  refine lv_istore_n (lv' := [(1, .int (0 : Int32)), (0, .ref (b + 0))]) hx0 hb dX12_needless_10 rfl hl (by decide) rfl (fun ls hl => ?_)
  obtain ⟨q11, h11, h⟩ := bnd h
  try dsimp only at h
  refine bX12_needless_l11 C   (q := q11) ?_ FU (0 : Int32) v6 h11 _ _ _ hW hS (lv_sub hl [1, 0] rfl)
  intro H locs ls hW hS hl
  refine lv_iconst (v := (0 : Int32)) hx0 hb dX12_needless_30 (by decide) ?_
  refine lv_istore_n (lv' := [(1, .int (0 : Int32)), (0, .ref (b + 0))]) hx0 hb dX12_needless_31 rfl hl (by decide) rfl (fun ls hl => ?_)
  refine lv_aload_n hx0 hb dX12_needless_32 rfl (lv_at hl 1 rfl) ?_
  refine gtX12_5 C hW flX12_20 dX12_needless_33 ?_
  refine lv_iconst (v := (2 : Int32)) hx0 hb dX12_needless_36 (by decide) ?_
  by_cases z37 : (2 : Int32) < 0 ∨ lm 3 ≤ (2 : Int32).toNatClampNeg
  · rw [if_pos z37] at h; cases h
  rw [if_neg z37] at h
  refine ldIm (k := 3) C hW (by decide) z37 dX12_needless_37 ?_
  refine lv_iconst (v := (1 : Int32)) hx0 hb dX12_needless_38 (by decide) ?_
  refine lv_isub hx0 hb dX12_needless_39 ?_
  refine lv_istore_n (lv' := [(2, .int ((q11.2 3 (2 : Int32).toNatClampNeg) - (1 : Int32))), (1, .int (0 : Int32)), (0, .ref (b + 0))]) hx0 hb dX12_needless_40 rfl hl (by decide) rfl (fun ls hl => ?_)
  obtain ⟨q41, h41, h⟩ := bnd h
  try dsimp only at h
  refine bX12_needless_l41 C   (q := q41) ?_ FU (0 : Int32) ((q11.2 3 (2 : Int32).toNatClampNeg) - (1 : Int32)) q11.2 h41 _ _ _ hW hS (lv_sub hl [2, 1, 0] rfl)
  intro H locs ls hW hS hl
  refine lv_iload_n hx0 hb dX12_needless_79 rfl (lv_at hl 1 rfl) ?_
  cases h
  exact w_iret C hW hS dX12_needless_80
def fX12_inversions (σ : Mem) : Option (Int32 × Mem) :=
  (fX12_inversionsNow (up σ 0 0 (0 : Int32))).bind fun v6 => some (v6.1, v6.2)
set_option maxRecDepth 100000 in
set_option maxHeartbeats 4000000 in
theorem mX12_inversions {l : Launch} {E : Ev} {b : Nat} (σ : Mem) (r : (Int32 × Mem)) (h : fX12_inversions σ = some r) : Met l yX12_inversions (tw yX12_inversions cX12_inversions 1 (some .int)) { frames := 5, cells := 0, slots := 0, locals := 113 } (va_Pc [.ref (b + 0)] (Pr l E (LM E b) σ)) (Qz E (LM E b) (some (.int r.1)) r.2) 0 0 (La (LM E b)) := by
  refine ct_of (by decide) (Nat.le_of_ble_eq_true rfl) ?_
  intro p e s m below meth c C hW hS ls hl
  have hx0 := C.1
  have hb := C.2.1
  have hl : lv_has ls 1 [(0, .ref (b + 0))] := hl
  unfold fX12_inversions at h
  refine lv_aload_n hx0 hb dX12_inversions_0 rfl (lv_at hl 0 rfl) ?_
  refine lv_iconst (v := (0 : Int32)) hx0 hb dX12_inversions_1 (by decide) ?_
  refine ptX12_0 C hW hS flX12_3 dX12_inversions_2 (fun H locs hW hS => ?_)
  refine lv_aload_n hx0 hb dX12_inversions_5 rfl (lv_at hl 0 rfl) ?_
  obtain ⟨v6, h6, h⟩ := bnd h
  try dsimp only at h
  refine w_callV (L := (LM E b)) (k := 0) (As := []) (rest := []) C hW hS (show 0 < 18 by decide) cm0 kcX12 (mX12_inversionsNow   (up σ 0 0 (0 : Int32)) v6 h6) cwX12_inversionsNow cvX12_inversionsNow rfl mlX12_345 ⟨by decide, by decide⟩ rfl hl.1 (Nat.le_of_ble_eq_true rfl) ⟨by decide, by decide⟩ dX12_inversions_6 rfl (fun H locs hW hS => ?_)
  cases h
  exact w_iret C hW hS dX12_inversions_9
def fX12_movesToOrder_l30 (x1 : Int32) (x2 : Int32) : Nat → Int32 → Mem → Option (Int32 × Mem)
  | 0, _, _ => none
  | n + 1, x3, σ => if x2 ≤ x3 then (some (x3, σ)) else (if x3 < 0 ∨ lm 13 ≤ x3.toNatClampNeg then none else if x2 < 0 ∨ lm 13 ≤ x2.toNatClampNeg then none else if (σ 13 x2.toNatClampNeg) < (σ 13 x3.toNatClampNeg) then (if x2 < 0 ∨ lm 14 ≤ x2.toNatClampNeg then none else if x2 < 0 ∨ lm 14 ≤ x2.toNatClampNeg then none else fX12_movesToOrder_l30 x1 x2 n (x3 + (1 : Int32)) (up σ 14 x2.toNatClampNeg (σ 14 x2.toNatClampNeg))) else (if x2 < 0 ∨ lm 14 ≤ x2.toNatClampNeg then none else if x3 < 0 ∨ lm 14 ≤ x3.toNatClampNeg then none else if x2 < 0 ∨ lm 14 ≤ x2.toNatClampNeg then none else fX12_movesToOrder_l30 x1 x2 n (x3 + (1 : Int32)) (up σ 14 x2.toNatClampNeg (if (σ 14 x2.toNatClampNeg) < ((σ 14 x3.toNatClampNeg) + (1 : Int32)) then ((σ 14 x3.toNatClampNeg) + (1 : Int32)) else (σ 14 x2.toNatClampNeg)))))
set_option maxRecDepth 100000 in
set_option maxHeartbeats 4000000 in
theorem bX12_movesToOrder_l30 {p : Program} {l : Launch} {e : Env} {s : State} {m : MethodId} {args : Array Value} {below : List Frame} {meth : Method} {c : Code} {E : Ev} {b : Nat} (C : Cx p l s m args meth c E cX12_movesToOrder 4 RX12 (some .int)) (x1 : Int32) (x2 : Int32) {Qf : State → Prop} {q : Int32 × Mem} (hx : ∀ H locs ls, Wd E (LM E b) q.2 H → va_S (La (LM E b)) s.heap H locs → lv_has ls 4 [(0, .ref (b + 0)), (1, .int x1), (2, .int x2), (3, .int q.1)] → W p l e { frames := 4, cells := 0, slots := 0, locals := 90 } s m args below meth c H locs 0 0 Qf (F0 m 88 ls [])) : ∀ (n : Nat) (x3 : Int32) (σ : Mem), fX12_movesToOrder_l30 x1 x2 n x3 σ = some q → ∀ (H : Heap) (locs : List Loc) (ls : Array Slot), Wd E (LM E b) σ H → va_S (La (LM E b)) s.heap H locs → lv_has ls 4 [(0, .ref (b + 0)), (1, .int x1), (2, .int x2), (3, .int x3)] → W p l e { frames := 4, cells := 0, slots := 0, locals := 90 } s m args below meth c H locs 0 0 Qf (F0 m 30 ls []) := by
  have hx0 := C.1
  have hb := C.2.1
  intro n
  induction n with
  | zero => intro x3 σ h; simp [fX12_movesToOrder_l30] at h
  | succ n ih =>
    intro x3 σ h H locs ls hW hS hl
    unfold fX12_movesToOrder_l30 at h
    refine lv_iload_n hx0 hb dX12_movesToOrder_30 rfl (lv_at hl 3 rfl) ?_
    refine lv_iload_n hx0 hb dX12_movesToOrder_31 rfl (lv_at hl 2 rfl) ?_
    refine lv_icmp_ge (tgt := 88) hx0 hb dX12_movesToOrder_32 (by decide) (fun c32 => ?_) (fun c32 => ?_)
    · rw [if_pos c32] at h
      cases h
      exact hx _ _ _ hW hS (lv_sub hl [0, 1, 2, 3] rfl)
    · rw [if_neg c32] at h
      refine lv_aload_n hx0 hb dX12_movesToOrder_35 rfl (lv_at hl 0 rfl) ?_
      refine gtX12_25 C hW flX12_54 dX12_movesToOrder_36 ?_
      refine lv_iload_n hx0 hb dX12_movesToOrder_39 rfl (lv_at hl 2 rfl) ?_
      refine lv_aload_n hx0 hb dX12_movesToOrder_40 rfl (lv_at hl 0 rfl) ?_
      refine gtX12_24 C hW flX12_51 dX12_movesToOrder_41 ?_
      refine lv_iload_n hx0 hb dX12_movesToOrder_44 rfl (lv_at hl 3 rfl) ?_
      by_cases z45 : x3 < 0 ∨ lm 13 ≤ x3.toNatClampNeg
      · rw [if_pos z45] at h; cases h
      rw [if_neg z45] at h
      refine ldIm (k := 13) C hW (by decide) z45 dX12_movesToOrder_45 ?_
      refine lv_aload_n hx0 hb dX12_movesToOrder_46 rfl (lv_at hl 0 rfl) ?_
      refine gtX12_24 C hW flX12_51 dX12_movesToOrder_47 ?_
      refine lv_iload_n hx0 hb dX12_movesToOrder_50 rfl (lv_at hl 2 rfl) ?_
      by_cases z51 : x2 < 0 ∨ lm 13 ≤ x2.toNatClampNeg
      · rw [if_pos z51] at h; cases h
      rw [if_neg z51] at h
      refine ldIm (k := 13) C hW (by decide) z51 dX12_movesToOrder_51 ?_
      refine lv_icmp_gt (tgt := 75) hx0 hb dX12_movesToOrder_52 (by decide) (fun c52 => ?_) (fun c52 => ?_)
      · rw [if_pos c52] at h
        refine lv_aload_n hx0 hb dX12_movesToOrder_75 rfl (lv_at hl 0 rfl) ?_
        refine gtX12_25 C hW flX12_54 dX12_movesToOrder_76 ?_
        refine lv_iload_n hx0 hb dX12_movesToOrder_79 rfl (lv_at hl 2 rfl) ?_
        by_cases z80 : x2 < 0 ∨ lm 14 ≤ x2.toNatClampNeg
        · rw [if_pos z80] at h; cases h
        rw [if_neg z80] at h
        refine ldIm (k := 14) C hW (by decide) z80 dX12_movesToOrder_80 ?_
        by_cases z81 : x2 < 0 ∨ lm 14 ≤ x2.toNatClampNeg
        · rw [if_pos z81] at h; cases h
        rw [if_neg z81] at h
        refine saIm (k := 14) C hW hS (by decide) z81 dX12_movesToOrder_81 (fun H locs hW hS => ?_)
        refine lv_iinc (v := x3 + (1 : Int32)) (lv' := [(3, .int (x3 + (1 : Int32))), (0, .ref (b + 0)), (1, .int x1), (2, .int x2)]) hx0 hb dX12_movesToOrder_82 hl (k := 3) rfl rfl (by decide) rfl (fun ls hl => ?_)
        refine lv_goto (tgt := 30) hx0 hb dX12_movesToOrder_85 (by decide) ?_
        exact ih (x3 + (1 : Int32)) (up σ 14 x2.toNatClampNeg (σ 14 x2.toNatClampNeg)) h _ _ _ hW hS (lv_sub hl [1, 2, 3, 0] rfl)
      · rw [if_neg c52] at h
        refine lv_aload_n hx0 hb dX12_movesToOrder_55 rfl (lv_at hl 0 rfl) ?_
        refine gtX12_25 C hW flX12_54 dX12_movesToOrder_56 ?_
        refine lv_iload_n hx0 hb dX12_movesToOrder_59 rfl (lv_at hl 2 rfl) ?_
        by_cases z60 : x2 < 0 ∨ lm 14 ≤ x2.toNatClampNeg
        · rw [if_pos z60] at h; cases h
        rw [if_neg z60] at h
        refine ldIm (k := 14) C hW (by decide) z60 dX12_movesToOrder_60 ?_
        refine lv_aload_n hx0 hb dX12_movesToOrder_61 rfl (lv_at hl 0 rfl) ?_
        refine gtX12_25 C hW flX12_54 dX12_movesToOrder_62 ?_
        refine lv_iload_n hx0 hb dX12_movesToOrder_65 rfl (lv_at hl 3 rfl) ?_
        by_cases z66 : x3 < 0 ∨ lm 14 ≤ x3.toNatClampNeg
        · rw [if_pos z66] at h; cases h
        rw [if_neg z66] at h
        refine ldIm (k := 14) C hW (by decide) z66 dX12_movesToOrder_66 ?_
        refine lv_iconst (v := (1 : Int32)) hx0 hb dX12_movesToOrder_67 (by decide) ?_
        refine lv_iadd hx0 hb dX12_movesToOrder_68 ?_
        refine w_mmax C hl.1 mlX12_278 ⟨by decide, Nat.le_of_ble_eq_true rfl⟩ ⟨by decide, by decide⟩ dX12_movesToOrder_69 ?_
        refine lv_goto (tgt := 81) hx0 hb dX12_movesToOrder_72 (by decide) ?_
        by_cases z81 : x2 < 0 ∨ lm 14 ≤ x2.toNatClampNeg
        · rw [if_pos z81] at h; cases h
        rw [if_neg z81] at h
        refine saIm (k := 14) C hW hS (by decide) z81 dX12_movesToOrder_81 (fun H locs hW hS => ?_)
        refine lv_iinc (v := x3 + (1 : Int32)) (lv' := [(3, .int (x3 + (1 : Int32))), (0, .ref (b + 0)), (1, .int x1), (2, .int x2)]) hx0 hb dX12_movesToOrder_82 hl (k := 3) rfl rfl (by decide) rfl (fun ls hl => ?_)
        refine lv_goto (tgt := 30) hx0 hb dX12_movesToOrder_85 (by decide) ?_
        exact ih (x3 + (1 : Int32)) (up σ 14 x2.toNatClampNeg (if (σ 14 x2.toNatClampNeg) < ((σ 14 x3.toNatClampNeg) + (1 : Int32)) then ((σ 14 x3.toNatClampNeg) + (1 : Int32)) else (σ 14 x2.toNatClampNeg))) h _ _ _ hW hS (lv_sub hl [1, 2, 3, 0] rfl)
def fX12_movesToOrder_l13 : Nat → Int32 → Int32 → Mem → Option (Int32 × Int32 × Mem)
  | 0, _, _, _ => none
  | n + 1, x1, x2, σ => if (σ 0 26) ≤ x2 then (some (x1, x2, σ)) else (if x2 < 0 ∨ lm 14 ≤ x2.toNatClampNeg then none else (fX12_movesToOrder_l30 x1 x2 FU (0 : Int32) (up σ 14 x2.toNatClampNeg (1 : Int32))).bind fun q30 => if x2 < 0 ∨ lm 14 ≤ x2.toNatClampNeg then none else fX12_movesToOrder_l13 n (if x1 < (q30.2 14 x2.toNatClampNeg) then (q30.2 14 x2.toNatClampNeg) else x1) (x2 + (1 : Int32)) q30.2)
set_option maxRecDepth 100000 in
set_option maxHeartbeats 4000000 in
theorem bX12_movesToOrder_l13 {p : Program} {l : Launch} {e : Env} {s : State} {m : MethodId} {args : Array Value} {below : List Frame} {meth : Method} {c : Code} {E : Ev} {b : Nat} (C : Cx p l s m args meth c E cX12_movesToOrder 4 RX12 (some .int)) {Qf : State → Prop} {q : Int32 × Int32 × Mem} (hx : ∀ H locs ls, Wd E (LM E b) q.2.2 H → va_S (La (LM E b)) s.heap H locs → lv_has ls 4 [(0, .ref (b + 0)), (1, .int q.1), (2, .int q.2.1)] → W p l e { frames := 4, cells := 0, slots := 0, locals := 90 } s m args below meth c H locs 0 0 Qf (F0 m 105 ls [])) : ∀ (n : Nat) (x1 : Int32) (x2 : Int32) (σ : Mem), fX12_movesToOrder_l13 n x1 x2 σ = some q → ∀ (H : Heap) (locs : List Loc) (ls : Array Slot), Wd E (LM E b) σ H → va_S (La (LM E b)) s.heap H locs → lv_has ls 4 [(0, .ref (b + 0)), (1, .int x1), (2, .int x2)] → W p l e { frames := 4, cells := 0, slots := 0, locals := 90 } s m args below meth c H locs 0 0 Qf (F0 m 13 ls []) := by
  have hx0 := C.1
  have hb := C.2.1
  intro n
  induction n with
  | zero => intro x1 x2 σ h; simp [fX12_movesToOrder_l13] at h
  | succ n ih =>
    intro x1 x2 σ h H locs ls hW hS hl
    unfold fX12_movesToOrder_l13 at h
    refine lv_iload_n hx0 hb dX12_movesToOrder_13 rfl (lv_at hl 2 rfl) ?_
    refine lv_aload_n hx0 hb dX12_movesToOrder_14 rfl (lv_at hl 0 rfl) ?_
    refine gtX12_26 C hW flX12_288 dX12_movesToOrder_15 ?_
    refine lv_icmp_ge (tgt := 105) hx0 hb dX12_movesToOrder_18 (by decide) (fun c18 => ?_) (fun c18 => ?_)
    · rw [if_pos c18] at h
      cases h
      exact hx _ _ _ hW hS (lv_sub hl [0, 1, 2] rfl)
    · rw [if_neg c18] at h
      refine lv_aload_n hx0 hb dX12_movesToOrder_21 rfl (lv_at hl 0 rfl) ?_
      refine gtX12_25 C hW flX12_54 dX12_movesToOrder_22 ?_
      refine lv_iload_n hx0 hb dX12_movesToOrder_25 rfl (lv_at hl 2 rfl) ?_
      refine lv_iconst (v := (1 : Int32)) hx0 hb dX12_movesToOrder_26 (by decide) ?_
      by_cases z27 : x2 < 0 ∨ lm 14 ≤ x2.toNatClampNeg
      · rw [if_pos z27] at h; cases h
      rw [if_neg z27] at h
      refine saIm (k := 14) C hW hS (by decide) z27 dX12_movesToOrder_27 (fun H locs hW hS => ?_)
      refine lv_iconst (v := (0 : Int32)) hx0 hb dX12_movesToOrder_28 (by decide) ?_
      refine lv_istore_n (lv' := [(3, .int (0 : Int32)), (0, .ref (b + 0)), (1, .int x1), (2, .int x2)]) hx0 hb dX12_movesToOrder_29 rfl hl (by decide) rfl (fun ls hl => ?_)
      obtain ⟨q30, h30, h⟩ := bnd h
      try dsimp only at h
      refine bX12_movesToOrder_l30 C x1 x2  (q := q30) ?_ FU (0 : Int32) (up σ 14 x2.toNatClampNeg (1 : Int32)) h30 _ _ _ hW hS (lv_sub hl [1, 2, 3, 0] rfl)
      intro H locs ls hW hS hl
      refine lv_iload_n hx0 hb dX12_movesToOrder_88 rfl (lv_at hl 1 rfl) ?_
      refine lv_aload_n hx0 hb dX12_movesToOrder_89 rfl (lv_at hl 0 rfl) ?_
      refine gtX12_25 C hW flX12_54 dX12_movesToOrder_90 ?_
      refine lv_iload_n hx0 hb dX12_movesToOrder_93 rfl (lv_at hl 2 rfl) ?_
      by_cases z94 : x2 < 0 ∨ lm 14 ≤ x2.toNatClampNeg
      · rw [if_pos z94] at h; cases h
      rw [if_neg z94] at h
      refine ldIm (k := 14) C hW (by decide) z94 dX12_movesToOrder_94 ?_
      refine w_mmax C hl.1 mlX12_278 ⟨by decide, Nat.le_of_ble_eq_true rfl⟩ ⟨by decide, by decide⟩ dX12_movesToOrder_95 ?_
      refine lv_istore_n (lv' := [(1, .int (if x1 < (q30.2 14 x2.toNatClampNeg) then (q30.2 14 x2.toNatClampNeg) else x1)), (0, .ref (b + 0)), (2, .int x2), (3, .int q30.1)]) hx0 hb dX12_movesToOrder_98 rfl hl (by decide) rfl (fun ls hl => ?_)
      refine lv_iinc (v := x2 + (1 : Int32)) (lv' := [(2, .int (x2 + (1 : Int32))), (1, .int (if x1 < (q30.2 14 x2.toNatClampNeg) then (q30.2 14 x2.toNatClampNeg) else x1)), (0, .ref (b + 0)), (3, .int q30.1)]) hx0 hb dX12_movesToOrder_99 hl (k := 2) rfl rfl (by decide) rfl (fun ls hl => ?_)
      refine lv_goto (tgt := 13) hx0 hb dX12_movesToOrder_102 (by decide) ?_
      exact ih (if x1 < (q30.2 14 x2.toNatClampNeg) then (q30.2 14 x2.toNatClampNeg) else x1) (x2 + (1 : Int32)) q30.2 h _ _ _ hW hS (lv_sub hl [2, 1, 0] rfl)
def fX12_movesToOrder (σ : Mem) : Option (Int32 × Mem) :=
  (fX12_laysRow (up σ 0 0 (0 : Int32))).bind fun v6 => (fX12_movesToOrder_l13 FU (0 : Int32) (0 : Int32) v6).bind fun q13 => some ((q13.2.2 0 26) - q13.1, q13.2.2)
set_option maxRecDepth 100000 in
set_option maxHeartbeats 4000000 in
theorem mX12_movesToOrder {l : Launch} {E : Ev} {b : Nat} (σ : Mem) (r : (Int32 × Mem)) (h : fX12_movesToOrder σ = some r) : Met l yX12_movesToOrder (tw yX12_movesToOrder cX12_movesToOrder 4 (some .int)) { frames := 4, cells := 0, slots := 0, locals := 90 } (va_Pc [.ref (b + 0)] (Pr l E (LM E b) σ)) (Qz E (LM E b) (some (.int r.1)) r.2) 0 0 (La (LM E b)) := by
  refine ct_of (by decide) (Nat.le_of_ble_eq_true rfl) ?_
  intro p e s m below meth c C hW hS ls hl
  have hx0 := C.1
  have hb := C.2.1
  have hl : lv_has ls 4 [(0, .ref (b + 0))] := hl
  unfold fX12_movesToOrder at h
  refine lv_aload_n hx0 hb dX12_movesToOrder_0 rfl (lv_at hl 0 rfl) ?_
  refine lv_iconst (v := (0 : Int32)) hx0 hb dX12_movesToOrder_1 (by decide) ?_
  refine ptX12_0 C hW hS flX12_3 dX12_movesToOrder_2 (fun H locs hW hS => ?_)
  refine lv_aload_n hx0 hb dX12_movesToOrder_5 rfl (lv_at hl 0 rfl) ?_
  obtain ⟨v6, h6, h⟩ := bnd h
  try dsimp only at h
  refine w_callV (L := (LM E b)) (k := 0) (As := []) (rest := []) C hW hS (show 0 < 18 by decide) cm0 kcX12 (mX12_laysRow   (up σ 0 0 (0 : Int32)) v6 h6) cwX12_laysRow cvX12_laysRow rfl mlX12_294 ⟨by decide, by decide⟩ rfl hl.1 (Nat.le_of_ble_eq_true rfl) ⟨by decide, by decide⟩ dX12_movesToOrder_6 rfl (fun H locs hW hS => ?_)
  refine lv_iconst (v := (0 : Int32)) hx0 hb dX12_movesToOrder_9 (by decide) ?_
  refine lv_istore_n (lv' := [(1, .int (0 : Int32)), (0, .ref (b + 0))]) hx0 hb dX12_movesToOrder_10 rfl hl (by decide) rfl (fun ls hl => ?_)
  refine lv_iconst (v := (0 : Int32)) hx0 hb dX12_movesToOrder_11 (by decide) ?_
  refine lv_istore_n (lv' := [(2, .int (0 : Int32)), (1, .int (0 : Int32)), (0, .ref (b + 0))]) hx0 hb dX12_movesToOrder_12 rfl hl (by decide) rfl (fun ls hl => ?_)
  obtain ⟨q13, h13, h⟩ := bnd h
  try dsimp only at h
  refine bX12_movesToOrder_l13 C   (q := q13) ?_ FU (0 : Int32) (0 : Int32) v6 h13 _ _ _ hW hS (lv_sub hl [2, 1, 0] rfl)
  intro H locs ls hW hS hl
  refine lv_aload_n hx0 hb dX12_movesToOrder_105 rfl (lv_at hl 0 rfl) ?_
  refine gtX12_26 C hW flX12_288 dX12_movesToOrder_106 ?_
  refine lv_iload_n hx0 hb dX12_movesToOrder_109 rfl (lv_at hl 1 rfl) ?_
  refine lv_isub hx0 hb dX12_movesToOrder_110 ?_
  cases h
  exact w_iret C hW hS dX12_movesToOrder_111
def fX12_longestRun_l13 : Nat → Int32 → Int32 → Mem → Option (Int32 × Int32 × Mem)
  | 0, _, _, _ => none
  | n + 1, x1, x2, σ => if (σ 0 26) ≤ x2 then (some (x1, x2, σ)) else (if x2 ≤ 0 then (if x2 < 0 ∨ lm 14 ≤ x2.toNatClampNeg then none else if x2 < 0 ∨ lm 14 ≤ x2.toNatClampNeg then none else fX12_longestRun_l13 n (if x1 < ((up σ 14 x2.toNatClampNeg (1 : Int32)) 14 x2.toNatClampNeg) then ((up σ 14 x2.toNatClampNeg (1 : Int32)) 14 x2.toNatClampNeg) else x1) (x2 + (1 : Int32)) (up σ 14 x2.toNatClampNeg (1 : Int32))) else (if (x2 - (1 : Int32)) < 0 ∨ lm 13 ≤ (x2 - (1 : Int32)).toNatClampNeg then none else if x2 < 0 ∨ lm 13 ≤ x2.toNatClampNeg then none else if (σ 13 x2.toNatClampNeg) < (σ 13 (x2 - (1 : Int32)).toNatClampNeg) then (if x2 < 0 ∨ lm 14 ≤ x2.toNatClampNeg then none else if x2 < 0 ∨ lm 14 ≤ x2.toNatClampNeg then none else fX12_longestRun_l13 n (if x1 < ((up σ 14 x2.toNatClampNeg (1 : Int32)) 14 x2.toNatClampNeg) then ((up σ 14 x2.toNatClampNeg (1 : Int32)) 14 x2.toNatClampNeg) else x1) (x2 + (1 : Int32)) (up σ 14 x2.toNatClampNeg (1 : Int32))) else (if (x2 - (1 : Int32)) < 0 ∨ lm 14 ≤ (x2 - (1 : Int32)).toNatClampNeg then none else if x2 < 0 ∨ lm 14 ≤ x2.toNatClampNeg then none else if x2 < 0 ∨ lm 14 ≤ x2.toNatClampNeg then none else fX12_longestRun_l13 n (if x1 < ((up σ 14 x2.toNatClampNeg ((σ 14 (x2 - (1 : Int32)).toNatClampNeg) + (1 : Int32))) 14 x2.toNatClampNeg) then ((up σ 14 x2.toNatClampNeg ((σ 14 (x2 - (1 : Int32)).toNatClampNeg) + (1 : Int32))) 14 x2.toNatClampNeg) else x1) (x2 + (1 : Int32)) (up σ 14 x2.toNatClampNeg ((σ 14 (x2 - (1 : Int32)).toNatClampNeg) + (1 : Int32))))))
set_option maxRecDepth 100000 in
set_option maxHeartbeats 4000000 in
theorem bX12_longestRun_l13 {p : Program} {l : Launch} {e : Env} {s : State} {m : MethodId} {args : Array Value} {below : List Frame} {meth : Method} {c : Code} {E : Ev} {b : Nat} (C : Cx p l s m args meth c E cX12_longestRun 3 RX12 (some .int)) {Qf : State → Prop} {q : Int32 × Int32 × Mem} (hx : ∀ H locs ls, Wd E (LM E b) q.2.2 H → va_S (La (LM E b)) s.heap H locs → lv_has ls 3 [(0, .ref (b + 0)), (1, .int q.1), (2, .int q.2.1)] → W p l e { frames := 4, cells := 0, slots := 0, locals := 90 } s m args below meth c H locs 0 0 Qf (F0 m 79 ls [])) : ∀ (n : Nat) (x1 : Int32) (x2 : Int32) (σ : Mem), fX12_longestRun_l13 n x1 x2 σ = some q → ∀ (H : Heap) (locs : List Loc) (ls : Array Slot), Wd E (LM E b) σ H → va_S (La (LM E b)) s.heap H locs → lv_has ls 3 [(0, .ref (b + 0)), (1, .int x1), (2, .int x2)] → W p l e { frames := 4, cells := 0, slots := 0, locals := 90 } s m args below meth c H locs 0 0 Qf (F0 m 13 ls []) := by
  have hx0 := C.1
  have hb := C.2.1
  intro n
  induction n with
  | zero => intro x1 x2 σ h; simp [fX12_longestRun_l13] at h
  | succ n ih =>
    intro x1 x2 σ h H locs ls hW hS hl
    unfold fX12_longestRun_l13 at h
    refine lv_iload_n hx0 hb dX12_longestRun_13 rfl (lv_at hl 2 rfl) ?_
    refine lv_aload_n hx0 hb dX12_longestRun_14 rfl (lv_at hl 0 rfl) ?_
    refine gtX12_26 C hW flX12_288 dX12_longestRun_15 ?_
    refine lv_icmp_ge (tgt := 79) hx0 hb dX12_longestRun_18 (by decide) (fun c18 => ?_) (fun c18 => ?_)
    · rw [if_pos c18] at h
      cases h
      exact hx _ _ _ hW hS (lv_sub hl [0, 1, 2] rfl)
    · rw [if_neg c18] at h
      refine lv_aload_n hx0 hb dX12_longestRun_21 rfl (lv_at hl 0 rfl) ?_
      refine gtX12_25 C hW flX12_54 dX12_longestRun_22 ?_
      refine lv_iload_n hx0 hb dX12_longestRun_25 rfl (lv_at hl 2 rfl) ?_
      refine lv_iload_n hx0 hb dX12_longestRun_26 rfl (lv_at hl 2 rfl) ?_
      refine lv_if_le (tgt := 60) hx0 hb dX12_longestRun_27 (by decide) (fun c27 => ?_) (fun c27 => ?_)
      · rw [if_pos c27] at h
        refine lv_iconst (v := (1 : Int32)) hx0 hb dX12_longestRun_60 (by decide) ?_
        by_cases z61 : x2 < 0 ∨ lm 14 ≤ x2.toNatClampNeg
        · rw [if_pos z61] at h; cases h
        rw [if_neg z61] at h
        refine saIm (k := 14) C hW hS (by decide) z61 dX12_longestRun_61 (fun H locs hW hS => ?_)
        refine lv_iload_n hx0 hb dX12_longestRun_62 rfl (lv_at hl 1 rfl) ?_
        refine lv_aload_n hx0 hb dX12_longestRun_63 rfl (lv_at hl 0 rfl) ?_
        refine gtX12_25 C hW flX12_54 dX12_longestRun_64 ?_
        refine lv_iload_n hx0 hb dX12_longestRun_67 rfl (lv_at hl 2 rfl) ?_
        by_cases z68 : x2 < 0 ∨ lm 14 ≤ x2.toNatClampNeg
        · rw [if_pos z68] at h; cases h
        rw [if_neg z68] at h
        refine ldIm (k := 14) C hW (by decide) z68 dX12_longestRun_68 ?_
        refine w_mmax C hl.1 mlX12_278 ⟨by decide, Nat.le_of_ble_eq_true rfl⟩ ⟨by decide, by decide⟩ dX12_longestRun_69 ?_
        refine lv_istore_n (lv' := [(1, .int (if x1 < ((up σ 14 x2.toNatClampNeg (1 : Int32)) 14 x2.toNatClampNeg) then ((up σ 14 x2.toNatClampNeg (1 : Int32)) 14 x2.toNatClampNeg) else x1)), (0, .ref (b + 0)), (2, .int x2)]) hx0 hb dX12_longestRun_72 rfl hl (by decide) rfl (fun ls hl => ?_)
        refine lv_iinc (v := x2 + (1 : Int32)) (lv' := [(2, .int (x2 + (1 : Int32))), (1, .int (if x1 < ((up σ 14 x2.toNatClampNeg (1 : Int32)) 14 x2.toNatClampNeg) then ((up σ 14 x2.toNatClampNeg (1 : Int32)) 14 x2.toNatClampNeg) else x1)), (0, .ref (b + 0))]) hx0 hb dX12_longestRun_73 hl (k := 2) rfl rfl (by decide) rfl (fun ls hl => ?_)
        refine lv_goto (tgt := 13) hx0 hb dX12_longestRun_76 (by decide) ?_
        exact ih (if x1 < ((up σ 14 x2.toNatClampNeg (1 : Int32)) 14 x2.toNatClampNeg) then ((up σ 14 x2.toNatClampNeg (1 : Int32)) 14 x2.toNatClampNeg) else x1) (x2 + (1 : Int32)) (up σ 14 x2.toNatClampNeg (1 : Int32)) h _ _ _ hW hS (lv_sub hl [2, 1, 0] rfl)
      · rw [if_neg c27] at h
        refine lv_aload_n hx0 hb dX12_longestRun_30 rfl (lv_at hl 0 rfl) ?_
        refine gtX12_24 C hW flX12_51 dX12_longestRun_31 ?_
        refine lv_iload_n hx0 hb dX12_longestRun_34 rfl (lv_at hl 2 rfl) ?_
        refine lv_iconst (v := (1 : Int32)) hx0 hb dX12_longestRun_35 (by decide) ?_
        refine lv_isub hx0 hb dX12_longestRun_36 ?_
        by_cases z37 : (x2 - (1 : Int32)) < 0 ∨ lm 13 ≤ (x2 - (1 : Int32)).toNatClampNeg
        · rw [if_pos z37] at h; cases h
        rw [if_neg z37] at h
        refine ldIm (k := 13) C hW (by decide) z37 dX12_longestRun_37 ?_
        refine lv_aload_n hx0 hb dX12_longestRun_38 rfl (lv_at hl 0 rfl) ?_
        refine gtX12_24 C hW flX12_51 dX12_longestRun_39 ?_
        refine lv_iload_n hx0 hb dX12_longestRun_42 rfl (lv_at hl 2 rfl) ?_
        by_cases z43 : x2 < 0 ∨ lm 13 ≤ x2.toNatClampNeg
        · rw [if_pos z43] at h; cases h
        rw [if_neg z43] at h
        refine ldIm (k := 13) C hW (by decide) z43 dX12_longestRun_43 ?_
        refine lv_icmp_gt (tgt := 60) hx0 hb dX12_longestRun_44 (by decide) (fun c44 => ?_) (fun c44 => ?_)
        · rw [if_pos c44] at h
          refine lv_iconst (v := (1 : Int32)) hx0 hb dX12_longestRun_60 (by decide) ?_
          by_cases z61 : x2 < 0 ∨ lm 14 ≤ x2.toNatClampNeg
          · rw [if_pos z61] at h; cases h
          rw [if_neg z61] at h
          refine saIm (k := 14) C hW hS (by decide) z61 dX12_longestRun_61 (fun H locs hW hS => ?_)
          refine lv_iload_n hx0 hb dX12_longestRun_62 rfl (lv_at hl 1 rfl) ?_
          refine lv_aload_n hx0 hb dX12_longestRun_63 rfl (lv_at hl 0 rfl) ?_
          refine gtX12_25 C hW flX12_54 dX12_longestRun_64 ?_
          refine lv_iload_n hx0 hb dX12_longestRun_67 rfl (lv_at hl 2 rfl) ?_
          by_cases z68 : x2 < 0 ∨ lm 14 ≤ x2.toNatClampNeg
          · rw [if_pos z68] at h; cases h
          rw [if_neg z68] at h
          refine ldIm (k := 14) C hW (by decide) z68 dX12_longestRun_68 ?_
          refine w_mmax C hl.1 mlX12_278 ⟨by decide, Nat.le_of_ble_eq_true rfl⟩ ⟨by decide, by decide⟩ dX12_longestRun_69 ?_
          refine lv_istore_n (lv' := [(1, .int (if x1 < ((up σ 14 x2.toNatClampNeg (1 : Int32)) 14 x2.toNatClampNeg) then ((up σ 14 x2.toNatClampNeg (1 : Int32)) 14 x2.toNatClampNeg) else x1)), (0, .ref (b + 0)), (2, .int x2)]) hx0 hb dX12_longestRun_72 rfl hl (by decide) rfl (fun ls hl => ?_)
          refine lv_iinc (v := x2 + (1 : Int32)) (lv' := [(2, .int (x2 + (1 : Int32))), (1, .int (if x1 < ((up σ 14 x2.toNatClampNeg (1 : Int32)) 14 x2.toNatClampNeg) then ((up σ 14 x2.toNatClampNeg (1 : Int32)) 14 x2.toNatClampNeg) else x1)), (0, .ref (b + 0))]) hx0 hb dX12_longestRun_73 hl (k := 2) rfl rfl (by decide) rfl (fun ls hl => ?_)
          refine lv_goto (tgt := 13) hx0 hb dX12_longestRun_76 (by decide) ?_
          exact ih (if x1 < ((up σ 14 x2.toNatClampNeg (1 : Int32)) 14 x2.toNatClampNeg) then ((up σ 14 x2.toNatClampNeg (1 : Int32)) 14 x2.toNatClampNeg) else x1) (x2 + (1 : Int32)) (up σ 14 x2.toNatClampNeg (1 : Int32)) h _ _ _ hW hS (lv_sub hl [2, 1, 0] rfl)
        · rw [if_neg c44] at h
          refine lv_aload_n hx0 hb dX12_longestRun_47 rfl (lv_at hl 0 rfl) ?_
          refine gtX12_25 C hW flX12_54 dX12_longestRun_48 ?_
          refine lv_iload_n hx0 hb dX12_longestRun_51 rfl (lv_at hl 2 rfl) ?_
          refine lv_iconst (v := (1 : Int32)) hx0 hb dX12_longestRun_52 (by decide) ?_
          refine lv_isub hx0 hb dX12_longestRun_53 ?_
          by_cases z54 : (x2 - (1 : Int32)) < 0 ∨ lm 14 ≤ (x2 - (1 : Int32)).toNatClampNeg
          · rw [if_pos z54] at h; cases h
          rw [if_neg z54] at h
          refine ldIm (k := 14) C hW (by decide) z54 dX12_longestRun_54 ?_
          refine lv_iconst (v := (1 : Int32)) hx0 hb dX12_longestRun_55 (by decide) ?_
          refine lv_iadd hx0 hb dX12_longestRun_56 ?_
          refine lv_goto (tgt := 61) hx0 hb dX12_longestRun_57 (by decide) ?_
          by_cases z61 : x2 < 0 ∨ lm 14 ≤ x2.toNatClampNeg
          · rw [if_pos z61] at h; cases h
          rw [if_neg z61] at h
          refine saIm (k := 14) C hW hS (by decide) z61 dX12_longestRun_61 (fun H locs hW hS => ?_)
          refine lv_iload_n hx0 hb dX12_longestRun_62 rfl (lv_at hl 1 rfl) ?_
          refine lv_aload_n hx0 hb dX12_longestRun_63 rfl (lv_at hl 0 rfl) ?_
          refine gtX12_25 C hW flX12_54 dX12_longestRun_64 ?_
          refine lv_iload_n hx0 hb dX12_longestRun_67 rfl (lv_at hl 2 rfl) ?_
          by_cases z68 : x2 < 0 ∨ lm 14 ≤ x2.toNatClampNeg
          · rw [if_pos z68] at h; cases h
          rw [if_neg z68] at h
          refine ldIm (k := 14) C hW (by decide) z68 dX12_longestRun_68 ?_
          refine w_mmax C hl.1 mlX12_278 ⟨by decide, Nat.le_of_ble_eq_true rfl⟩ ⟨by decide, by decide⟩ dX12_longestRun_69 ?_
          refine lv_istore_n (lv' := [(1, .int (if x1 < ((up σ 14 x2.toNatClampNeg ((σ 14 (x2 - (1 : Int32)).toNatClampNeg) + (1 : Int32))) 14 x2.toNatClampNeg) then ((up σ 14 x2.toNatClampNeg ((σ 14 (x2 - (1 : Int32)).toNatClampNeg) + (1 : Int32))) 14 x2.toNatClampNeg) else x1)), (0, .ref (b + 0)), (2, .int x2)]) hx0 hb dX12_longestRun_72 rfl hl (by decide) rfl (fun ls hl => ?_)
          refine lv_iinc (v := x2 + (1 : Int32)) (lv' := [(2, .int (x2 + (1 : Int32))), (1, .int (if x1 < ((up σ 14 x2.toNatClampNeg ((σ 14 (x2 - (1 : Int32)).toNatClampNeg) + (1 : Int32))) 14 x2.toNatClampNeg) then ((up σ 14 x2.toNatClampNeg ((σ 14 (x2 - (1 : Int32)).toNatClampNeg) + (1 : Int32))) 14 x2.toNatClampNeg) else x1)), (0, .ref (b + 0))]) hx0 hb dX12_longestRun_73 hl (k := 2) rfl rfl (by decide) rfl (fun ls hl => ?_)
          refine lv_goto (tgt := 13) hx0 hb dX12_longestRun_76 (by decide) ?_
          exact ih (if x1 < ((up σ 14 x2.toNatClampNeg ((σ 14 (x2 - (1 : Int32)).toNatClampNeg) + (1 : Int32))) 14 x2.toNatClampNeg) then ((up σ 14 x2.toNatClampNeg ((σ 14 (x2 - (1 : Int32)).toNatClampNeg) + (1 : Int32))) 14 x2.toNatClampNeg) else x1) (x2 + (1 : Int32)) (up σ 14 x2.toNatClampNeg ((σ 14 (x2 - (1 : Int32)).toNatClampNeg) + (1 : Int32))) h _ _ _ hW hS (lv_sub hl [2, 1, 0] rfl)
def fX12_longestRun (σ : Mem) : Option (Int32 × Mem) :=
  (fX12_laysRow (up σ 0 0 (0 : Int32))).bind fun v6 => (fX12_longestRun_l13 FU (0 : Int32) (0 : Int32) v6).bind fun q13 => some (q13.1, q13.2.2)
set_option maxRecDepth 100000 in
set_option maxHeartbeats 4000000 in
theorem mX12_longestRun {l : Launch} {E : Ev} {b : Nat} (σ : Mem) (r : (Int32 × Mem)) (h : fX12_longestRun σ = some r) : Met l yX12_longestRun (tw yX12_longestRun cX12_longestRun 3 (some .int)) { frames := 4, cells := 0, slots := 0, locals := 90 } (va_Pc [.ref (b + 0)] (Pr l E (LM E b) σ)) (Qz E (LM E b) (some (.int r.1)) r.2) 0 0 (La (LM E b)) := by
  refine ct_of (by decide) (Nat.le_of_ble_eq_true rfl) ?_
  intro p e s m below meth c C hW hS ls hl
  have hx0 := C.1
  have hb := C.2.1
  have hl : lv_has ls 3 [(0, .ref (b + 0))] := hl
  unfold fX12_longestRun at h
  refine lv_aload_n hx0 hb dX12_longestRun_0 rfl (lv_at hl 0 rfl) ?_
  refine lv_iconst (v := (0 : Int32)) hx0 hb dX12_longestRun_1 (by decide) ?_
  refine ptX12_0 C hW hS flX12_3 dX12_longestRun_2 (fun H locs hW hS => ?_)
  refine lv_aload_n hx0 hb dX12_longestRun_5 rfl (lv_at hl 0 rfl) ?_
  obtain ⟨v6, h6, h⟩ := bnd h
  try dsimp only at h
  refine w_callV (L := (LM E b)) (k := 0) (As := []) (rest := []) C hW hS (show 0 < 18 by decide) cm0 kcX12 (mX12_laysRow   (up σ 0 0 (0 : Int32)) v6 h6) cwX12_laysRow cvX12_laysRow rfl mlX12_294 ⟨by decide, by decide⟩ rfl hl.1 (Nat.le_of_ble_eq_true rfl) ⟨by decide, by decide⟩ dX12_longestRun_6 rfl (fun H locs hW hS => ?_)
  refine lv_iconst (v := (0 : Int32)) hx0 hb dX12_longestRun_9 (by decide) ?_
  refine lv_istore_n (lv' := [(1, .int (0 : Int32)), (0, .ref (b + 0))]) hx0 hb dX12_longestRun_10 rfl hl (by decide) rfl (fun ls hl => ?_)
  refine lv_iconst (v := (0 : Int32)) hx0 hb dX12_longestRun_11 (by decide) ?_
  refine lv_istore_n (lv' := [(2, .int (0 : Int32)), (1, .int (0 : Int32)), (0, .ref (b + 0))]) hx0 hb dX12_longestRun_12 rfl hl (by decide) rfl (fun ls hl => ?_)
  obtain ⟨q13, h13, h⟩ := bnd h
  try dsimp only at h
  refine bX12_longestRun_l13 C   (q := q13) ?_ FU (0 : Int32) (0 : Int32) v6 h13 _ _ _ hW hS (lv_sub hl [2, 1, 0] rfl)
  intro H locs ls hW hS hl
  refine lv_iload_n hx0 hb dX12_longestRun_79 rfl (lv_at hl 1 rfl) ?_
  cases h
  exact w_iret C hW hS dX12_longestRun_80
def fX12_firstMisplaced_l13 : Nat → Int32 → Int32 → Mem → Option ((Int32 × Mem) ⊕ (Int32 × Int32 × Mem))
  | 0, _, _, _ => none
  | n + 1, x1, x2, σ => if (2 : Int32) < 0 ∨ lm 3 ≤ (2 : Int32).toNatClampNeg then none else if (σ 3 (2 : Int32).toNatClampNeg) ≤ x2 then (some (.inr (x1, x2, σ))) else ((fX12_placeOfScan x2 σ).bind fun v25 => if v25.1 = (-1 : Int32) then (fX12_firstMisplaced_l13 n (if x1 < v25.1 then v25.1 else x1) (x2 + (1 : Int32)) v25.2) else (if x1 ≤ v25.1 then (fX12_firstMisplaced_l13 n (if x1 < v25.1 then v25.1 else x1) (x2 + (1 : Int32)) v25.2) else (some (.inl (x2, v25.2)))))
set_option maxRecDepth 100000 in
set_option maxHeartbeats 4000000 in
theorem bX12_firstMisplaced_l13 {p : Program} {l : Launch} {e : Env} {s : State} {m : MethodId} {args : Array Value} {below : List Frame} {meth : Method} {c : Code} {E : Ev} {b : Nat} (C : Cx p l s m args meth c E cX12_firstMisplaced 4 RX12 (some .int)) (r0 : (Int32 × Mem)) {q0 : (Int32 × Mem) ⊕ (Int32 × Int32 × Mem)} (hr : ∀ r, q0 = .inl r → r = r0) (hx : ∀ q, q0 = .inr q → ∀ H locs ls, Wd E (LM E b) q.2.2 H → va_S (La (LM E b)) s.heap H locs → lv_has ls 4 [(0, .ref (b + 0)), (1, .int q.1), (2, .int q.2.1)] → W p l e { frames := 3, cells := 0, slots := 0, locals := 68 } s m args below meth c H locs 0 0 (MQ below (Qz E (LM E b) (some (.int r0.1)) r0.2) args s 0 0 (La (LM E b))) (F0 m 53 ls [])) : ∀ (n : Nat) (x1 : Int32) (x2 : Int32) (σ : Mem), fX12_firstMisplaced_l13 n x1 x2 σ = some q0 → ∀ (H : Heap) (locs : List Loc) (ls : Array Slot), Wd E (LM E b) σ H → va_S (La (LM E b)) s.heap H locs → lv_has ls 4 [(0, .ref (b + 0)), (1, .int x1), (2, .int x2)] → W p l e { frames := 3, cells := 0, slots := 0, locals := 68 } s m args below meth c H locs 0 0 (MQ below (Qz E (LM E b) (some (.int r0.1)) r0.2) args s 0 0 (La (LM E b))) (F0 m 13 ls []) := by
  have hx0 := C.1
  have hb := C.2.1
  intro n
  induction n with
  | zero => intro x1 x2 σ h; simp [fX12_firstMisplaced_l13] at h
  | succ n ih =>
    intro x1 x2 σ h H locs ls hW hS hl
    unfold fX12_firstMisplaced_l13 at h
    refine lv_iload_n hx0 hb dX12_firstMisplaced_13 rfl (lv_at hl 2 rfl) ?_
    refine lv_aload_n hx0 hb dX12_firstMisplaced_14 rfl (lv_at hl 0 rfl) ?_
    refine gtX12_5 C hW flX12_20 dX12_firstMisplaced_15 ?_
    refine lv_iconst (v := (2 : Int32)) hx0 hb dX12_firstMisplaced_18 (by decide) ?_
    by_cases z19 : (2 : Int32) < 0 ∨ lm 3 ≤ (2 : Int32).toNatClampNeg
    · rw [if_pos z19] at h; cases h
    rw [if_neg z19] at h
    refine ldIm (k := 3) C hW (by decide) z19 dX12_firstMisplaced_19 ?_
    refine lv_icmp_ge (tgt := 53) hx0 hb dX12_firstMisplaced_20 (by decide) (fun c20 => ?_) (fun c20 => ?_)
    · rw [if_pos c20] at h
      cases h
      exact hx _ rfl _ _ _ hW hS (lv_sub hl [0, 1, 2] rfl)
    · rw [if_neg c20] at h
      refine lv_aload_n hx0 hb dX12_firstMisplaced_23 rfl (lv_at hl 0 rfl) ?_
      refine lv_iload_n hx0 hb dX12_firstMisplaced_24 rfl (lv_at hl 2 rfl) ?_
      obtain ⟨v25, h25, h⟩ := bnd h
      try dsimp only at h
      refine w_callV (L := (LM E b)) (k := 0) (As := [.int x2]) (rest := []) C hW hS (show 0 < 18 by decide) cm0 kcX12 (mX12_placeOfScan x2  σ v25 h25) cwX12_placeOfScan cvX12_placeOfScan rfl mlX12_291 ⟨by decide, by decide⟩ rfl hl.1 (Nat.le_of_ble_eq_true rfl) ⟨by decide, by decide⟩ dX12_firstMisplaced_25 rfl (fun H locs hW hS => ?_)
      refine lv_istore_n (lv' := [(3, .int v25.1), (0, .ref (b + 0)), (1, .int x1), (2, .int x2)]) hx0 hb dX12_firstMisplaced_28 rfl hl (by decide) rfl (fun ls hl => ?_)
      refine lv_iload_n hx0 hb dX12_firstMisplaced_29 rfl (lv_at hl 0 rfl) ?_
      refine lv_iconst (v := (-1 : Int32)) hx0 hb dX12_firstMisplaced_30 (by decide) ?_
      refine lv_icmp_eq (tgt := 41) hx0 hb dX12_firstMisplaced_31 (by decide) (fun c31 => ?_) (fun c31 => ?_)
      · rw [if_pos c31] at h
        refine lv_iload_n hx0 hb dX12_firstMisplaced_41 rfl (lv_at hl 2 rfl) ?_
        refine lv_iload_n hx0 hb dX12_firstMisplaced_42 rfl (lv_at hl 0 rfl) ?_
        refine w_mmax C hl.1 mlX12_278 ⟨by decide, Nat.le_of_ble_eq_true rfl⟩ ⟨by decide, by decide⟩ dX12_firstMisplaced_43 ?_
        refine lv_istore_n (lv' := [(1, .int (if x1 < v25.1 then v25.1 else x1)), (3, .int v25.1), (0, .ref (b + 0)), (2, .int x2)]) hx0 hb dX12_firstMisplaced_46 rfl hl (by decide) rfl (fun ls hl => ?_)
        refine lv_iinc (v := x2 + (1 : Int32)) (lv' := [(2, .int (x2 + (1 : Int32))), (1, .int (if x1 < v25.1 then v25.1 else x1)), (3, .int v25.1), (0, .ref (b + 0))]) hx0 hb dX12_firstMisplaced_47 hl (k := 3) rfl rfl (by decide) rfl (fun ls hl => ?_)
        refine lv_goto (tgt := 13) hx0 hb dX12_firstMisplaced_50 (by decide) ?_
        exact ih (if x1 < v25.1 then v25.1 else x1) (x2 + (1 : Int32)) v25.2 h _ _ _ hW hS (lv_sub hl [3, 1, 0] rfl)
      · rw [if_neg c31] at h
        refine lv_iload_n hx0 hb dX12_firstMisplaced_34 rfl (lv_at hl 0 rfl) ?_
        refine lv_iload_n hx0 hb dX12_firstMisplaced_35 rfl (lv_at hl 2 rfl) ?_
        refine lv_icmp_ge (tgt := 41) hx0 hb dX12_firstMisplaced_36 (by decide) (fun c36 => ?_) (fun c36 => ?_)
        · rw [if_pos c36] at h
          refine lv_iload_n hx0 hb dX12_firstMisplaced_41 rfl (lv_at hl 2 rfl) ?_
          refine lv_iload_n hx0 hb dX12_firstMisplaced_42 rfl (lv_at hl 0 rfl) ?_
          refine w_mmax C hl.1 mlX12_278 ⟨by decide, Nat.le_of_ble_eq_true rfl⟩ ⟨by decide, by decide⟩ dX12_firstMisplaced_43 ?_
          refine lv_istore_n (lv' := [(1, .int (if x1 < v25.1 then v25.1 else x1)), (3, .int v25.1), (0, .ref (b + 0)), (2, .int x2)]) hx0 hb dX12_firstMisplaced_46 rfl hl (by decide) rfl (fun ls hl => ?_)
          refine lv_iinc (v := x2 + (1 : Int32)) (lv' := [(2, .int (x2 + (1 : Int32))), (1, .int (if x1 < v25.1 then v25.1 else x1)), (3, .int v25.1), (0, .ref (b + 0))]) hx0 hb dX12_firstMisplaced_47 hl (k := 3) rfl rfl (by decide) rfl (fun ls hl => ?_)
          refine lv_goto (tgt := 13) hx0 hb dX12_firstMisplaced_50 (by decide) ?_
          exact ih (if x1 < v25.1 then v25.1 else x1) (x2 + (1 : Int32)) v25.2 h _ _ _ hW hS (lv_sub hl [3, 1, 0] rfl)
        · rw [if_neg c36] at h
          refine lv_iload_n hx0 hb dX12_firstMisplaced_39 rfl (lv_at hl 3 rfl) ?_
          cases h
          cases hr _ rfl
          exact w_iret C hW hS dX12_firstMisplaced_40
def fX12_firstMisplaced (σ : Mem) : Option (Int32 × Mem) :=
  (fX12_laysOrder (up σ 0 0 (0 : Int32))).bind fun v6 => (fX12_firstMisplaced_l13 FU (-1 : Int32) (0 : Int32) v6).bind fun q13 => match q13 with | .inl r => some r | .inr q13 => (fX12_fails (1 : Int32) q13.2.2).bind fun v55 => some (v55.1, v55.2)
set_option maxRecDepth 100000 in
set_option maxHeartbeats 4000000 in
theorem mX12_firstMisplaced {l : Launch} {E : Ev} {b : Nat} (σ : Mem) (r : (Int32 × Mem)) (h : fX12_firstMisplaced σ = some r) : Met l yX12_firstMisplaced (tw yX12_firstMisplaced cX12_firstMisplaced 4 (some .int)) { frames := 3, cells := 0, slots := 0, locals := 68 } (va_Pc [.ref (b + 0)] (Pr l E (LM E b) σ)) (Qz E (LM E b) (some (.int r.1)) r.2) 0 0 (La (LM E b)) := by
  refine ct_of (by decide) (Nat.le_of_ble_eq_true rfl) ?_
  intro p e s m below meth c C hW hS ls hl
  have hx0 := C.1
  have hb := C.2.1
  have hl : lv_has ls 4 [(0, .ref (b + 0))] := hl
  unfold fX12_firstMisplaced at h
  refine lv_aload_n hx0 hb dX12_firstMisplaced_0 rfl (lv_at hl 0 rfl) ?_
  refine lv_iconst (v := (0 : Int32)) hx0 hb dX12_firstMisplaced_1 (by decide) ?_
  refine ptX12_0 C hW hS flX12_3 dX12_firstMisplaced_2 (fun H locs hW hS => ?_)
  refine lv_aload_n hx0 hb dX12_firstMisplaced_5 rfl (lv_at hl 0 rfl) ?_
  obtain ⟨v6, h6, h⟩ := bnd h
  try dsimp only at h
  refine w_callV (L := (LM E b)) (k := 0) (As := []) (rest := []) C hW hS (show 0 < 18 by decide) cm0 kcX12 (mX12_laysOrder   (up σ 0 0 (0 : Int32)) v6 h6) cwX12_laysOrder cvX12_laysOrder rfl mlX12_239 ⟨by decide, by decide⟩ rfl hl.1 (Nat.le_of_ble_eq_true rfl) ⟨by decide, by decide⟩ dX12_firstMisplaced_6 rfl (fun H locs hW hS => ?_)
  refine lv_iconst (v := (-1 : Int32)) hx0 hb dX12_firstMisplaced_9 (by decide) ?_
  refine lv_istore_n (lv' := [(1, .int (-1 : Int32)), (0, .ref (b + 0))]) hx0 hb dX12_firstMisplaced_10 rfl hl (by decide) rfl (fun ls hl => ?_)
  refine lv_iconst (v := (0 : Int32)) hx0 hb dX12_firstMisplaced_11 (by decide) ?_
  refine lv_istore_n (lv' := [(2, .int (0 : Int32)), (1, .int (-1 : Int32)), (0, .ref (b + 0))]) hx0 hb dX12_firstMisplaced_12 rfl hl (by decide) rfl (fun ls hl => ?_)
  obtain ⟨q13, h13, h⟩ := bnd h
  refine bX12_firstMisplaced_l13 C   r (q0 := q13) ?_ ?_ FU (-1 : Int32) (0 : Int32) v6 h13 _ _ _ hW hS (lv_sub hl [2, 1, 0] rfl)
  · intro r1 hq; subst hq; (try dsimp only at h); exact Option.some.inj h
  · intro q13 hq H locs ls hW hS hl
    subst hq; try dsimp only at h
    refine lv_aload_n hx0 hb dX12_firstMisplaced_53 rfl (lv_at hl 0 rfl) ?_
    refine lv_iconst (v := (1 : Int32)) hx0 hb dX12_firstMisplaced_54 (by decide) ?_
    obtain ⟨v55, h55, h⟩ := bnd h
    try dsimp only at h
    refine w_callV (L := (LM E b)) (k := 0) (As := [.int (1 : Int32)]) (rest := []) C hW hS (show 0 < 18 by decide) cm0 kcX12 (mX12_fails (1 : Int32)  q13.2.2 v55 h55) cwX12_fails cvX12_fails rfl mlX12_94 ⟨by decide, by decide⟩ rfl hl.1 (Nat.le_of_ble_eq_true rfl) ⟨by decide, by decide⟩ dX12_firstMisplaced_55 rfl (fun H locs hW hS => ?_)
    cases h
    exact w_iret C hW hS dX12_firstMisplaced_58
def fX12_undo (σ : Mem) : Option (Int32 × Mem) :=
  if ((up σ 0 0 (0 : Int32)) 0 9) = 0 then ((fX12_fails (1 : Int32) (up σ 0 0 (0 : Int32))).bind fun v14 => some (v14.1, v14.2)) else ((fX12_copies 6 ((339 : Int32) * ((up (up σ 0 0 (0 : Int32)) 0 9 (((up σ 0 0 (0 : Int32)) 0 9) - (1 : Int32))) 0 9)) 3 (0 : Int32) (up (up σ 0 0 (0 : Int32)) 0 9 (((up σ 0 0 (0 : Int32)) 0 9) - (1 : Int32)))).bind fun v45 => some (v45 0 9, v45))
set_option maxRecDepth 100000 in
set_option maxHeartbeats 4000000 in
theorem mX12_undo {l : Launch} {E : Ev} {b : Nat} (σ : Mem) (r : (Int32 × Mem)) (h : fX12_undo σ = some r) : Met l yX12_undo (tw yX12_undo cX12_undo 1 (some .int)) { frames := 1, cells := 0, slots := 0, locals := 24 } (va_Pc [.ref (b + 0)] (Pr l E (LM E b) σ)) (Qz E (LM E b) (some (.int r.1)) r.2) 0 0 (La (LM E b)) := by
  refine ct_of (by decide) (Nat.le_of_ble_eq_true rfl) ?_
  intro p e s m below meth c C hW hS ls hl
  have hx0 := C.1
  have hb := C.2.1
  have hl : lv_has ls 1 [(0, .ref (b + 0))] := hl
  unfold fX12_undo at h
  refine lv_aload_n hx0 hb dX12_undo_0 rfl (lv_at hl 0 rfl) ?_
  refine lv_iconst (v := (0 : Int32)) hx0 hb dX12_undo_1 (by decide) ?_
  refine ptX12_0 C hW hS flX12_3 dX12_undo_2 (fun H locs hW hS => ?_)
  refine lv_aload_n hx0 hb dX12_undo_5 rfl (lv_at hl 0 rfl) ?_
  refine gtX12_9 C hW flX12_80 dX12_undo_6 ?_
  refine lv_if_ne (tgt := 18) hx0 hb dX12_undo_9 (by decide) (fun c9 => ?_) (fun c9 => ?_)
  · rw [if_neg c9] at h
    refine lv_aload_n hx0 hb dX12_undo_18 rfl (lv_at hl 0 rfl) ?_
    refine lv_dup hx0 hb dX12_undo_19 rfl ?_
    refine gtX12_9 C hW flX12_80 dX12_undo_20 ?_
    refine lv_iconst (v := (1 : Int32)) hx0 hb dX12_undo_23 (by decide) ?_
    refine lv_isub hx0 hb dX12_undo_24 ?_
    refine ptX12_9 C hW hS flX12_80 dX12_undo_25 (fun H locs hW hS => ?_)
    refine lv_aload_n hx0 hb dX12_undo_28 rfl (lv_at hl 0 rfl) ?_
    refine gtX12_8 C hW flX12_29 dX12_undo_29 ?_
    refine lv_sipush (v := (339 : Int32)) hx0 hb dX12_undo_32 (by decide) ?_
    refine lv_aload_n hx0 hb dX12_undo_35 rfl (lv_at hl 0 rfl) ?_
    refine gtX12_9 C hW flX12_80 dX12_undo_36 ?_
    refine lv_imul hx0 hb dX12_undo_39 ?_
    refine lv_aload_n hx0 hb dX12_undo_40 rfl (lv_at hl 0 rfl) ?_
    refine gtX12_5 C hW flX12_20 dX12_undo_41 ?_
    refine lv_iconst (v := (0 : Int32)) hx0 hb dX12_undo_44 (by decide) ?_
    obtain ⟨v45, h45, h⟩ := bnd h
    try dsimp only at h
    refine w_callS (L := (LM E b)) (As := [.ref (b + 6), .int ((339 : Int32) * ((up (up σ 0 0 (0 : Int32)) 0 9 (((up σ 0 0 (0 : Int32)) 0 9) - (1 : Int32))) 0 9)), .ref (b + 3), .int (0 : Int32)]) (rest := []) C hW hS (mX12_copies 6 ((339 : Int32) * ((up (up σ 0 0 (0 : Int32)) 0 9 (((up σ 0 0 (0 : Int32)) 0 9) - (1 : Int32))) 0 9)) 3 (0 : Int32) (by decide) (by decide) (up (up σ 0 0 (0 : Int32)) 0 9 (((up σ 0 0 (0 : Int32)) 0 9) - (1 : Int32))) v45 h45) cwX12_copies csX12_copies mlX12_76 ⟨by decide, by decide⟩ rfl hl.1 (Nat.le_of_ble_eq_true rfl) ⟨by decide, by decide⟩ dX12_undo_45 rfl (fun H locs hW hS => ?_)
    refine lv_aload_n hx0 hb dX12_undo_48 rfl (lv_at hl 0 rfl) ?_
    refine gtX12_9 C hW flX12_80 dX12_undo_49 ?_
    cases h
    exact w_iret C hW hS dX12_undo_52
  · rw [if_pos c9] at h
    refine lv_aload_n hx0 hb dX12_undo_12 rfl (lv_at hl 0 rfl) ?_
    refine lv_iconst (v := (1 : Int32)) hx0 hb dX12_undo_13 (by decide) ?_
    obtain ⟨v14, h14, h⟩ := bnd h
    try dsimp only at h
    refine w_callV (L := (LM E b)) (k := 0) (As := [.int (1 : Int32)]) (rest := []) C hW hS (show 0 < 18 by decide) cm0 kcX12 (mX12_fails (1 : Int32)  (up σ 0 0 (0 : Int32)) v14 h14) cwX12_fails cvX12_fails rfl mlX12_94 ⟨by decide, by decide⟩ rfl hl.1 (Nat.le_of_ble_eq_true rfl) ⟨by decide, by decide⟩ dX12_undo_14 rfl (fun H locs hW hS => ?_)
    cases h
    exact w_iret C hW hS dX12_undo_17
def fX12_undoCount (σ : Mem) : Option (Int32 × Mem) :=
  some ((up σ 0 0 (0 : Int32)) 0 9, up σ 0 0 (0 : Int32))
set_option maxRecDepth 100000 in
set_option maxHeartbeats 4000000 in
theorem mX12_undoCount {l : Launch} {E : Ev} {b : Nat} (σ : Mem) (r : (Int32 × Mem)) (h : fX12_undoCount σ = some r) : Met l yX12_undoCount (tw yX12_undoCount cX12_undoCount 1 (some .int)) { frames := 0, cells := 0, slots := 0, locals := 0 } (va_Pc [.ref (b + 0)] (Pr l E (LM E b) σ)) (Qz E (LM E b) (some (.int r.1)) r.2) 0 0 (La (LM E b)) := by
  refine ct_of (by decide) (Nat.le_of_ble_eq_true rfl) ?_
  intro p e s m below meth c C hW hS ls hl
  have hx0 := C.1
  have hb := C.2.1
  have hl : lv_has ls 1 [(0, .ref (b + 0))] := hl
  unfold fX12_undoCount at h
  refine lv_aload_n hx0 hb dX12_undoCount_0 rfl (lv_at hl 0 rfl) ?_
  refine lv_iconst (v := (0 : Int32)) hx0 hb dX12_undoCount_1 (by decide) ?_
  refine ptX12_0 C hW hS flX12_3 dX12_undoCount_2 (fun H locs hW hS => ?_)
  refine lv_aload_n hx0 hb dX12_undoCount_5 rfl (lv_at hl 0 rfl) ?_
  refine gtX12_9 C hW flX12_80 dX12_undoCount_6 ?_
  cases h
  exact w_iret C hW hS dX12_undoCount_9
def fX12_save (σ : Mem) : Option (Int32 × Mem) :=
  (fX12_copies 3 (0 : Int32) 5 (0 : Int32) (up σ 0 0 (0 : Int32))).bind fun v15 => if (2 : Int32) < 0 ∨ lm 3 ≤ (2 : Int32).toNatClampNeg then none else some ((up v15 0 10 (1 : Int32)) 3 (2 : Int32).toNatClampNeg, up v15 0 10 (1 : Int32))
set_option maxRecDepth 100000 in
set_option maxHeartbeats 4000000 in
theorem mX12_save {l : Launch} {E : Ev} {b : Nat} (σ : Mem) (r : (Int32 × Mem)) (h : fX12_save σ = some r) : Met l yX12_save (tw yX12_save cX12_save 1 (some .int)) { frames := 1, cells := 0, slots := 0, locals := 24 } (va_Pc [.ref (b + 0)] (Pr l E (LM E b) σ)) (Qz E (LM E b) (some (.int r.1)) r.2) 0 0 (La (LM E b)) := by
  refine ct_of (by decide) (Nat.le_of_ble_eq_true rfl) ?_
  intro p e s m below meth c C hW hS ls hl
  have hx0 := C.1
  have hb := C.2.1
  have hl : lv_has ls 1 [(0, .ref (b + 0))] := hl
  unfold fX12_save at h
  refine lv_aload_n hx0 hb dX12_save_0 rfl (lv_at hl 0 rfl) ?_
  refine lv_iconst (v := (0 : Int32)) hx0 hb dX12_save_1 (by decide) ?_
  refine ptX12_0 C hW hS flX12_3 dX12_save_2 (fun H locs hW hS => ?_)
  refine lv_aload_n hx0 hb dX12_save_5 rfl (lv_at hl 0 rfl) ?_
  refine gtX12_5 C hW flX12_20 dX12_save_6 ?_
  refine lv_iconst (v := (0 : Int32)) hx0 hb dX12_save_9 (by decide) ?_
  refine lv_aload_n hx0 hb dX12_save_10 rfl (lv_at hl 0 rfl) ?_
  refine gtX12_7 C hW flX12_26 dX12_save_11 ?_
  refine lv_iconst (v := (0 : Int32)) hx0 hb dX12_save_14 (by decide) ?_
  obtain ⟨v15, h15, h⟩ := bnd h
  try dsimp only at h
  refine w_callS (L := (LM E b)) (As := [.ref (b + 3), .int (0 : Int32), .ref (b + 5), .int (0 : Int32)]) (rest := []) C hW hS (mX12_copies 3 (0 : Int32) 5 (0 : Int32) (by decide) (by decide) (up σ 0 0 (0 : Int32)) v15 h15) cwX12_copies csX12_copies mlX12_76 ⟨by decide, by decide⟩ rfl hl.1 (Nat.le_of_ble_eq_true rfl) ⟨by decide, by decide⟩ dX12_save_15 rfl (fun H locs hW hS => ?_)
  refine lv_aload_n hx0 hb dX12_save_18 rfl (lv_at hl 0 rfl) ?_
  refine lv_iconst (v := (1 : Int32)) hx0 hb dX12_save_19 (by decide) ?_
  refine ptX12_10 (Or.inr rfl) C hW hS flX12_83 dX12_save_20 (fun H locs hW hS => ?_)
  refine lv_aload_n hx0 hb dX12_save_23 rfl (lv_at hl 0 rfl) ?_
  refine gtX12_5 C hW flX12_20 dX12_save_24 ?_
  refine lv_iconst (v := (2 : Int32)) hx0 hb dX12_save_27 (by decide) ?_
  by_cases z28 : (2 : Int32) < 0 ∨ lm 3 ≤ (2 : Int32).toNatClampNeg
  · rw [if_pos z28] at h; cases h
  rw [if_neg z28] at h
  refine ldIm (k := 3) C hW (by decide) z28 dX12_save_28 ?_
  cases h
  exact w_iret C hW hS dX12_save_29
def fX12_restore (σ : Mem) : Option (Int32 × Mem) :=
  if ((up σ 0 0 (0 : Int32)) 0 10) = 0 then ((fX12_fails (1 : Int32) (up σ 0 0 (0 : Int32))).bind fun v14 => some (v14.1, v14.2)) else ((fX12_copies 5 (0 : Int32) 3 (0 : Int32) (up σ 0 0 (0 : Int32))).bind fun v28 => if (2 : Int32) < 0 ∨ lm 3 ≤ (2 : Int32).toNatClampNeg then none else some ((up v28 0 9 (0 : Int32)) 3 (2 : Int32).toNatClampNeg, up v28 0 9 (0 : Int32)))
set_option maxRecDepth 100000 in
set_option maxHeartbeats 4000000 in
theorem mX12_restore {l : Launch} {E : Ev} {b : Nat} (σ : Mem) (r : (Int32 × Mem)) (h : fX12_restore σ = some r) : Met l yX12_restore (tw yX12_restore cX12_restore 1 (some .int)) { frames := 1, cells := 0, slots := 0, locals := 24 } (va_Pc [.ref (b + 0)] (Pr l E (LM E b) σ)) (Qz E (LM E b) (some (.int r.1)) r.2) 0 0 (La (LM E b)) := by
  refine ct_of (by decide) (Nat.le_of_ble_eq_true rfl) ?_
  intro p e s m below meth c C hW hS ls hl
  have hx0 := C.1
  have hb := C.2.1
  have hl : lv_has ls 1 [(0, .ref (b + 0))] := hl
  unfold fX12_restore at h
  refine lv_aload_n hx0 hb dX12_restore_0 rfl (lv_at hl 0 rfl) ?_
  refine lv_iconst (v := (0 : Int32)) hx0 hb dX12_restore_1 (by decide) ?_
  refine ptX12_0 C hW hS flX12_3 dX12_restore_2 (fun H locs hW hS => ?_)
  refine lv_aload_n hx0 hb dX12_restore_5 rfl (lv_at hl 0 rfl) ?_
  refine gtX12_10 C hW flX12_83 dX12_restore_6 ?_
  refine lv_if_ne (tgt := 18) hx0 hb dX12_restore_9 (by decide) (fun c9 => ?_) (fun c9 => ?_)
  · rw [if_neg c9] at h
    refine lv_aload_n hx0 hb dX12_restore_18 rfl (lv_at hl 0 rfl) ?_
    refine gtX12_7 C hW flX12_26 dX12_restore_19 ?_
    refine lv_iconst (v := (0 : Int32)) hx0 hb dX12_restore_22 (by decide) ?_
    refine lv_aload_n hx0 hb dX12_restore_23 rfl (lv_at hl 0 rfl) ?_
    refine gtX12_5 C hW flX12_20 dX12_restore_24 ?_
    refine lv_iconst (v := (0 : Int32)) hx0 hb dX12_restore_27 (by decide) ?_
    obtain ⟨v28, h28, h⟩ := bnd h
    try dsimp only at h
    refine w_callS (L := (LM E b)) (As := [.ref (b + 5), .int (0 : Int32), .ref (b + 3), .int (0 : Int32)]) (rest := []) C hW hS (mX12_copies 5 (0 : Int32) 3 (0 : Int32) (by decide) (by decide) (up σ 0 0 (0 : Int32)) v28 h28) cwX12_copies csX12_copies mlX12_76 ⟨by decide, by decide⟩ rfl hl.1 (Nat.le_of_ble_eq_true rfl) ⟨by decide, by decide⟩ dX12_restore_28 rfl (fun H locs hW hS => ?_)
    refine lv_aload_n hx0 hb dX12_restore_31 rfl (lv_at hl 0 rfl) ?_
    refine lv_iconst (v := (0 : Int32)) hx0 hb dX12_restore_32 (by decide) ?_
    refine ptX12_9 C hW hS flX12_80 dX12_restore_33 (fun H locs hW hS => ?_)
    refine lv_aload_n hx0 hb dX12_restore_36 rfl (lv_at hl 0 rfl) ?_
    refine gtX12_5 C hW flX12_20 dX12_restore_37 ?_
    refine lv_iconst (v := (2 : Int32)) hx0 hb dX12_restore_40 (by decide) ?_
    by_cases z41 : (2 : Int32) < 0 ∨ lm 3 ≤ (2 : Int32).toNatClampNeg
    · rw [if_pos z41] at h; cases h
    rw [if_neg z41] at h
    refine ldIm (k := 3) C hW (by decide) z41 dX12_restore_41 ?_
    cases h
    exact w_iret C hW hS dX12_restore_42
  · rw [if_pos c9] at h
    refine lv_aload_n hx0 hb dX12_restore_12 rfl (lv_at hl 0 rfl) ?_
    refine lv_iconst (v := (1 : Int32)) hx0 hb dX12_restore_13 (by decide) ?_
    obtain ⟨v14, h14, h⟩ := bnd h
    try dsimp only at h
    refine w_callV (L := (LM E b)) (k := 0) (As := [.int (1 : Int32)]) (rest := []) C hW hS (show 0 < 18 by decide) cm0 kcX12 (mX12_fails (1 : Int32)  (up σ 0 0 (0 : Int32)) v14 h14) cwX12_fails cvX12_fails rfl mlX12_94 ⟨by decide, by decide⟩ rfl hl.1 (Nat.le_of_ble_eq_true rfl) ⟨by decide, by decide⟩ dX12_restore_14 rfl (fun H locs hW hS => ?_)
    cases h
    exact w_iret C hW hS dX12_restore_17
