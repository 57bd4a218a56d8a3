/-! the reference, by program out of the bytecode -/
def fX12_scanSlip (x1 : Int32) (x2 : Int32) (σ : Mem) : Option (Int32 × Mem) :=
  (fX12_isSlip x1 (up σ 0 0 (0 : Int32))).bind fun v7 => if v7 = 0 then ((fX12_fails (1 : Int32) (up σ 0 0 (0 : Int32))).bind fun v33 => some (v33.1, v33.2)) else ((fX12_ofSlip x1 (2 : Int32) (up σ 0 0 (0 : Int32))).bind fun v19 => (fX12_isIn x2.toInt64 (0 : Int64) ((v19 - (1 : Int32)).toInt64) (up σ 0 0 (0 : Int32))).bind fun v25 => if v25 = 0 then ((fX12_fails (1 : Int32) (up σ 0 0 (0 : Int32))).bind fun v33 => some (v33.1, v33.2)) else ((fX12_isAttached x1 (up σ 0 0 (0 : Int32))).bind fun v39 => if v39 = 0 then ((fX12_fails (2 : Int32) (up σ 0 0 (0 : Int32))).bind fun v58 => some (v58.1, v58.2)) else (if (2 : Int32) < 0 ∨ lm 3 ≤ (2 : Int32).toNatClampNeg then none else if ((up σ 0 0 (0 : Int32)) 3 (2 : Int32).toNatClampNeg) = (60 : Int32) then ((fX12_fails (2 : Int32) (up σ 0 0 (0 : Int32))).bind fun v58 => some (v58.1, v58.2)) else ((fX12_adds (2 : Int32) x1 x2 (up σ 0 0 (0 : Int32))).bind fun v66 => some (v66.1, v66.2)))))
set_option maxRecDepth 100000 in
set_option maxHeartbeats 4000000 in
theorem mX12_scanSlip {l : Launch} {E : Ev} {b : Nat} (x1 : Int32) (x2 : Int32) (σ : Mem) (r : (Int32 × Mem)) (h : fX12_scanSlip x1 x2 σ = some r) : Met l yX12_scanSlip (tw yX12_scanSlip cX12_scanSlip 3 (some .int)) { frames := 3, cells := 0, slots := 0, locals := 69 } (va_Pc [.ref (b + 0), .int x1, .int x2] (Pr l E (LM E b) σ)) (Qz E (LM E b) (some (.int r.1)) r.2) 0 0 (La (LM E b)) := by
  refine ct_of (by decide) (Nat.le_of_ble_eq_true rfl) ?_
  intro p e s m below meth c C hW hS ls hl
  have hx0 := C.1
  have hb := C.2.1
  have hl : lv_has ls 3 [(0, .ref (b + 0)), (1, .int x1), (2, .int x2)] := hl
  unfold fX12_scanSlip at h
  refine lv_aload_n hx0 hb dX12_scanSlip_0 rfl (lv_at hl 0 rfl) ?_
  refine lv_iconst (v := (0 : Int32)) hx0 hb dX12_scanSlip_1 (by decide) ?_
  refine ptX12_0 C hW hS flX12_3 dX12_scanSlip_2 (fun H locs hW hS => ?_)
  refine lv_aload_n hx0 hb dX12_scanSlip_5 rfl (lv_at hl 0 rfl) ?_
  refine lv_iload_n hx0 hb dX12_scanSlip_6 rfl (lv_at hl 1 rfl) ?_
  obtain ⟨v7, h7, h⟩ := bnd h
  try dsimp only at h
  refine w_callV (L := (LM E b)) (k := 0) (As := [.int x1]) (rest := []) C hW hS (show 0 < 18 by decide) cm0 kcX12 (mX12_isSlip x1  (up σ 0 0 (0 : Int32)) v7 h7) cwX12_isSlip cvX12_isSlip rfl mlX12_314 ⟨by decide, by decide⟩ rfl hl.1 (Nat.le_of_ble_eq_true rfl) ⟨by decide, by decide⟩ dX12_scanSlip_7 rfl (fun H locs hW hS => ?_)
  refine lv_if_eq (tgt := 31) hx0 hb dX12_scanSlip_10 (by decide) (fun c10 => ?_) (fun c10 => ?_)
  · rw [if_pos c10] at h
    refine lv_aload_n hx0 hb dX12_scanSlip_31 rfl (lv_at hl 0 rfl) ?_
    refine lv_iconst (v := (1 : Int32)) hx0 hb dX12_scanSlip_32 (by decide) ?_
    obtain ⟨v33, h33, h⟩ := bnd h
    try dsimp only at h
    refine w_callV (L := (LM E b)) (k := 0) (As := [.int (1 : Int32)]) (rest := []) C hW hS (show 0 < 18 by decide) cm0 kcX12 (mX12_fails (1 : Int32)  (up σ 0 0 (0 : Int32)) v33 h33) cwX12_fails cvX12_fails rfl mlX12_94 ⟨by decide, by decide⟩ rfl hl.1 (Nat.le_of_ble_eq_true rfl) ⟨by decide, by decide⟩ dX12_scanSlip_33 rfl (fun H locs hW hS => ?_)
    cases h
    exact w_iret C hW hS dX12_scanSlip_36
  · rw [if_neg c10] at h
    refine lv_iload_n hx0 hb dX12_scanSlip_13 rfl (lv_at hl 2 rfl) ?_
    refine lv_i2l hx0 hb dX12_scanSlip_14 rfl ?_
    refine lv_lconst (v := (0 : Int64)) hx0 hb dX12_scanSlip_15 (by decide) ?_
    refine lv_aload_n hx0 hb dX12_scanSlip_16 rfl (lv_at hl 0 rfl) ?_
    refine lv_iload_n hx0 hb dX12_scanSlip_17 rfl (lv_at hl 1 rfl) ?_
    refine lv_iconst (v := (2 : Int32)) hx0 hb dX12_scanSlip_18 (by decide) ?_
    obtain ⟨v19, h19, h⟩ := bnd h
    try dsimp only at h
    refine w_callV (L := (LM E b)) (k := 0) (As := [.int x1, .int (2 : Int32)]) (rest := [.long (0 : Int64), .long x2.toInt64]) C hW hS (show 0 < 18 by decide) cm0 kcX12 (mX12_ofSlip x1 (2 : Int32)  (up σ 0 0 (0 : Int32)) v19 h19) cwX12_ofSlip cvX12_ofSlip rfl mlX12_218 ⟨by decide, by decide⟩ rfl hl.1 (Nat.le_of_ble_eq_true rfl) ⟨by decide, by decide⟩ dX12_scanSlip_19 rfl (fun H locs hW hS => ?_)
    refine lv_iconst (v := (1 : Int32)) hx0 hb dX12_scanSlip_22 (by decide) ?_
    refine lv_isub hx0 hb dX12_scanSlip_23 ?_
    refine lv_i2l hx0 hb dX12_scanSlip_24 rfl ?_
    obtain ⟨v25, h25, h⟩ := bnd h
    try dsimp only at h
    refine w_callS (L := (LM E b)) (As := [.long x2.toInt64, .long (0 : Int64), .long ((v19 - (1 : Int32)).toInt64)]) (rest := []) C hW hS (mX12_isIn x2.toInt64 (0 : Int64) ((v19 - (1 : Int32)).toInt64)  (up σ 0 0 (0 : Int32)) v25 h25) cwX12_isIn csX12_isIn mlX12_101 ⟨by decide, by decide⟩ rfl hl.1 (Nat.le_of_ble_eq_true rfl) ⟨by decide, by decide⟩ dX12_scanSlip_25 rfl (fun H locs hW hS => ?_)
    refine lv_if_ne (tgt := 37) hx0 hb dX12_scanSlip_28 (by decide) (fun c28 => ?_) (fun c28 => ?_)
    · rw [if_neg c28] at h
      refine lv_aload_n hx0 hb dX12_scanSlip_37 rfl (lv_at hl 0 rfl) ?_
      refine lv_iload_n hx0 hb dX12_scanSlip_38 rfl (lv_at hl 1 rfl) ?_
      obtain ⟨v39, h39, h⟩ := bnd h
      try dsimp only at h
      refine w_callV (L := (LM E b)) (k := 0) (As := [.int x1]) (rest := []) C hW hS (show 0 < 18 by decide) cm0 kcX12 (mX12_isAttached x1  (up σ 0 0 (0 : Int32)) v39 h39) cwX12_isAttached cvX12_isAttached rfl mlX12_229 ⟨by decide, by decide⟩ rfl hl.1 (Nat.le_of_ble_eq_true rfl) ⟨by decide, by decide⟩ dX12_scanSlip_39 rfl (fun H locs hW hS => ?_)
      refine lv_if_eq (tgt := 56) hx0 hb dX12_scanSlip_42 (by decide) (fun c42 => ?_) (fun c42 => ?_)
      · rw [if_pos c42] at h
        refine lv_aload_n hx0 hb dX12_scanSlip_56 rfl (lv_at hl 0 rfl) ?_
        refine lv_iconst (v := (2 : Int32)) hx0 hb dX12_scanSlip_57 (by decide) ?_
        obtain ⟨v58, h58, h⟩ := bnd h
        try dsimp only at h
        refine w_callV (L := (LM E b)) (k := 0) (As := [.int (2 : Int32)]) (rest := []) C hW hS (show 0 < 18 by decide) cm0 kcX12 (mX12_fails (2 : Int32)  (up σ 0 0 (0 : Int32)) v58 h58) cwX12_fails cvX12_fails rfl mlX12_94 ⟨by decide, by decide⟩ rfl hl.1 (Nat.le_of_ble_eq_true rfl) ⟨by decide, by decide⟩ dX12_scanSlip_58 rfl (fun H locs hW hS => ?_)
        cases h
        exact w_iret C hW hS dX12_scanSlip_61
      · rw [if_neg c42] at h
        refine lv_aload_n hx0 hb dX12_scanSlip_45 rfl (lv_at hl 0 rfl) ?_
        refine gtX12_5 C hW flX12_20 dX12_scanSlip_46 ?_
        refine lv_iconst (v := (2 : Int32)) hx0 hb dX12_scanSlip_49 (by decide) ?_
        by_cases z50 : (2 : Int32) < 0 ∨ lm 3 ≤ (2 : Int32).toNatClampNeg
        · rw [if_pos z50] at h; cases h
        rw [if_neg z50] at h
        refine ldIm (k := 3) C hW (by decide) z50 dX12_scanSlip_50 ?_
        refine lv_bipush (v := (60 : Int32)) hx0 hb dX12_scanSlip_51 (by decide) ?_
        refine lv_icmp_ne (tgt := 62) hx0 hb dX12_scanSlip_53 (by decide) (fun c53 => ?_) (fun c53 => ?_)
        · rw [if_neg c53] at h
          refine lv_aload_n hx0 hb dX12_scanSlip_62 rfl (lv_at hl 0 rfl) ?_
          refine lv_iconst (v := (2 : Int32)) hx0 hb dX12_scanSlip_63 (by decide) ?_
          refine lv_iload_n hx0 hb dX12_scanSlip_64 rfl (lv_at hl 1 rfl) ?_
          refine lv_iload_n hx0 hb dX12_scanSlip_65 rfl (lv_at hl 2 rfl) ?_
          obtain ⟨v66, h66, h⟩ := bnd h
          try dsimp only at h
          refine w_callV (L := (LM E b)) (k := 0) (As := [.int (2 : Int32), .int x1, .int x2]) (rest := []) C hW hS (show 0 < 18 by decide) cm0 kcX12 (mX12_adds (2 : Int32) x1 x2  (up σ 0 0 (0 : Int32)) v66 h66) cwX12_adds cvX12_adds rfl mlX12_324 ⟨by decide, by decide⟩ rfl hl.1 (Nat.le_of_ble_eq_true rfl) ⟨by decide, by decide⟩ dX12_scanSlip_66 rfl (fun H locs hW hS => ?_)
          cases h
          exact w_iret C hW hS dX12_scanSlip_69
        · rw [if_pos c53] at h
          refine lv_aload_n hx0 hb dX12_scanSlip_56 rfl (lv_at hl 0 rfl) ?_
          refine lv_iconst (v := (2 : Int32)) hx0 hb dX12_scanSlip_57 (by decide) ?_
          obtain ⟨v58, h58, h⟩ := bnd h
          try dsimp only at h
          refine w_callV (L := (LM E b)) (k := 0) (As := [.int (2 : Int32)]) (rest := []) C hW hS (show 0 < 18 by decide) cm0 kcX12 (mX12_fails (2 : Int32)  (up σ 0 0 (0 : Int32)) v58 h58) cwX12_fails cvX12_fails rfl mlX12_94 ⟨by decide, by decide⟩ rfl hl.1 (Nat.le_of_ble_eq_true rfl) ⟨by decide, by decide⟩ dX12_scanSlip_58 rfl (fun H locs hW hS => ?_)
          cases h
          exact w_iret C hW hS dX12_scanSlip_61
    · rw [if_pos c28] at h
      refine lv_aload_n hx0 hb dX12_scanSlip_31 rfl (lv_at hl 0 rfl) ?_
      refine lv_iconst (v := (1 : Int32)) hx0 hb dX12_scanSlip_32 (by decide) ?_
      obtain ⟨v33, h33, h⟩ := bnd h
      try dsimp only at h
      refine w_callV (L := (LM E b)) (k := 0) (As := [.int (1 : Int32)]) (rest := []) C hW hS (show 0 < 18 by decide) cm0 kcX12 (mX12_fails (1 : Int32)  (up σ 0 0 (0 : Int32)) v33 h33) cwX12_fails cvX12_fails rfl mlX12_94 ⟨by decide, by decide⟩ rfl hl.1 (Nat.le_of_ble_eq_true rfl) ⟨by decide, by decide⟩ dX12_scanSlip_33 rfl (fun H locs hW hS => ?_)
      cases h
      exact w_iret C hW hS dX12_scanSlip_36
def fX12_swaps_l2 (x1 : Int32) (x2 : Int32) : Nat → Int32 → Mem → Option (Int32 × Mem)
  | 0, _, _ => none
  | n + 1, x3, σ => if (3 : Int32) ≤ x3 then (some (x3, σ)) else ((fX12_ofScan x1 x3 σ).bind fun v10 => (fX12_ofScan x2 x3 σ).bind fun v30 => if (((89 : Int32) + ((3 : Int32) * x1)) + x3) < 0 ∨ lm 3 ≤ (((89 : Int32) + ((3 : Int32) * x1)) + x3).toNatClampNeg then none else if (((89 : Int32) + ((3 : Int32) * x2)) + x3) < 0 ∨ lm 3 ≤ (((89 : Int32) + ((3 : Int32) * x2)) + x3).toNatClampNeg then none else fX12_swaps_l2 x1 x2 n (x3 + (1 : Int32)) (up (up σ 3 (((89 : Int32) + ((3 : Int32) * x1)) + x3).toNatClampNeg v30) 3 (((89 : Int32) + ((3 : Int32) * x2)) + x3).toNatClampNeg v10))
set_option maxRecDepth 100000 in
set_option maxHeartbeats 4000000 in
theorem bX12_swaps_l2 {p : Program} {l : Launch} {e : Env} {s : State} {m : MethodId} {args : Array Value} {below : List Frame} {meth : Method} {c : Code} {E : Ev} {b : Nat} (C : Cx p l s m args meth c E cX12_swaps 5 RX12 none) (x1 : Int32) (x2 : Int32) {Qf : State → Prop} {q : Int32 × Mem} (hx : ∀ H locs ls, Wd E (LM E b) q.2 H → va_S (La (LM E b)) s.heap H locs → lv_has ls 5 [(0, .ref (b + 0)), (1, .int x1), (2, .int x2), (3, .int q.1)] → W p l e { frames := 1, cells := 0, slots := 0, locals := 22 } s m args below meth c H locs 0 0 Qf (F0 m 55 ls [])) : ∀ (n : Nat) (x3 : Int32) (σ : Mem), fX12_swaps_l2 x1 x2 n x3 σ = some q → ∀ (H : Heap) (locs : List Loc) (ls : Array Slot), Wd E (LM E b) σ H → va_S (La (LM E b)) s.heap H locs → lv_has ls 5 [(0, .ref (b + 0)), (1, .int x1), (2, .int x2), (3, .int x3)] → W p l e { frames := 1, cells := 0, slots := 0, locals := 22 } s m args below meth c H locs 0 0 Qf (F0 m 2 ls []) := by
  have hx0 := C.1
  have hb := C.2.1
  intro n
  induction n with
  | zero => intro x3 σ h; simp [fX12_swaps_l2] at h
  | succ n ih =>
    intro x3 σ h H locs ls hW hS hl
    unfold fX12_swaps_l2 at h
    refine lv_iload_n hx0 hb dX12_swaps_2 rfl (lv_at hl 3 rfl) ?_
    refine lv_iconst (v := (3 : Int32)) hx0 hb dX12_swaps_3 (by decide) ?_
    refine lv_icmp_ge (tgt := 55) hx0 hb dX12_swaps_4 (by decide) (fun c4 => ?_) (fun c4 => ?_)
    · rw [if_pos c4] at h
      cases h
      exact hx _ _ _ hW hS (lv_sub hl [0, 1, 2, 3] rfl)
    · rw [if_neg c4] at h
      refine lv_aload_n hx0 hb dX12_swaps_7 rfl (lv_at hl 0 rfl) ?_
      refine lv_iload_n hx0 hb dX12_swaps_8 rfl (lv_at hl 1 rfl) ?_
      refine lv_iload_n hx0 hb dX12_swaps_9 rfl (lv_at hl 3 rfl) ?_
      obtain ⟨v10, h10, h⟩ := bnd h
      try dsimp only at h
      refine w_callV (L := (LM E b)) (k := 0) (As := [.int x1, .int x3]) (rest := []) C hW hS (show 0 < 18 by decide) cm0 kcX12 (mX12_ofScan x1 x3  σ v10 h10) cwX12_ofScan cvX12_ofScan rfl mlX12_266 ⟨by decide, by decide⟩ rfl hl.1 (Nat.le_of_ble_eq_true rfl) ⟨by decide, by decide⟩ dX12_swaps_10 rfl (fun H locs hW hS => ?_)
      refine lv_istore (lv' := [(4, .int v10), (0, .ref (b + 0)), (1, .int x1), (2, .int x2), (3, .int x3)]) hx0 hb dX12_swaps_13 hl (by decide) rfl (fun ls hl => ?_)
      refine lv_aload_n hx0 hb dX12_swaps_15 rfl (lv_at hl 1 rfl) ?_
      refine gtX12_5 C hW flX12_20 dX12_swaps_16 ?_
      refine lv_bipush (v := (89 : Int32)) hx0 hb dX12_swaps_19 (by decide) ?_
      refine lv_iconst (v := (3 : Int32)) hx0 hb dX12_swaps_21 (by decide) ?_
      refine lv_iload_n hx0 hb dX12_swaps_22 rfl (lv_at hl 2 rfl) ?_
      refine lv_imul hx0 hb dX12_swaps_23 ?_
      refine lv_iadd hx0 hb dX12_swaps_24 ?_
      refine lv_iload_n hx0 hb dX12_swaps_25 rfl (lv_at hl 4 rfl) ?_
      refine lv_iadd hx0 hb dX12_swaps_26 ?_
      refine lv_aload_n hx0 hb dX12_swaps_27 rfl (lv_at hl 1 rfl) ?_
      refine lv_iload_n hx0 hb dX12_swaps_28 rfl (lv_at hl 3 rfl) ?_
      refine lv_iload_n hx0 hb dX12_swaps_29 rfl (lv_at hl 4 rfl) ?_
      obtain ⟨v30, h30, h⟩ := bnd h
      try dsimp only at h
      refine w_callV (L := (LM E b)) (k := 0) (As := [.int x2, .int x3]) (rest := [.int (((89 : Int32) + ((3 : Int32) * x1)) + x3), .ref (b + 3)]) C hW hS (show 0 < 18 by decide) cm0 kcX12 (mX12_ofScan x2 x3  σ v30 h30) cwX12_ofScan cvX12_ofScan rfl mlX12_266 ⟨by decide, by decide⟩ rfl hl.1 (Nat.le_of_ble_eq_true rfl) ⟨by decide, by decide⟩ dX12_swaps_30 rfl (fun H locs hW hS => ?_)
      by_cases z33 : (((89 : Int32) + ((3 : Int32) * x1)) + x3) < 0 ∨ lm 3 ≤ (((89 : Int32) + ((3 : Int32) * x1)) + x3).toNatClampNeg
      · rw [if_pos z33] at h; cases h
      rw [if_neg z33] at h
      refine saIm (k := 3) C hW hS (by decide) z33 dX12_swaps_33 (fun H locs hW hS => ?_)
      refine lv_aload_n hx0 hb dX12_swaps_34 rfl (lv_at hl 1 rfl) ?_
      refine gtX12_5 C hW flX12_20 dX12_swaps_35 ?_
      refine lv_bipush (v := (89 : Int32)) hx0 hb dX12_swaps_38 (by decide) ?_
      refine lv_iconst (v := (3 : Int32)) hx0 hb dX12_swaps_40 (by decide) ?_
      refine lv_iload_n hx0 hb dX12_swaps_41 rfl (lv_at hl 3 rfl) ?_
      refine lv_imul hx0 hb dX12_swaps_42 ?_
      refine lv_iadd hx0 hb dX12_swaps_43 ?_
      refine lv_iload_n hx0 hb dX12_swaps_44 rfl (lv_at hl 4 rfl) ?_
      refine lv_iadd hx0 hb dX12_swaps_45 ?_
      refine lv_iload hx0 hb dX12_swaps_46 (lv_at hl 0 rfl) ?_
      by_cases z48 : (((89 : Int32) + ((3 : Int32) * x2)) + x3) < 0 ∨ lm 3 ≤ (((89 : Int32) + ((3 : Int32) * x2)) + x3).toNatClampNeg
      · rw [if_pos z48] at h; cases h
      rw [if_neg z48] at h
      refine saIm (k := 3) C hW hS (by decide) z48 dX12_swaps_48 (fun H locs hW hS => ?_)
      refine lv_iinc (v := x3 + (1 : Int32)) (lv' := [(3, .int (x3 + (1 : Int32))), (4, .int v10), (0, .ref (b + 0)), (1, .int x1), (2, .int x2)]) hx0 hb dX12_swaps_49 hl (k := 4) rfl rfl (by decide) rfl (fun ls hl => ?_)
      refine lv_goto (tgt := 2) hx0 hb dX12_swaps_52 (by decide) ?_
      exact ih (x3 + (1 : Int32)) (up (up σ 3 (((89 : Int32) + ((3 : Int32) * x1)) + x3).toNatClampNeg v30) 3 (((89 : Int32) + ((3 : Int32) * x2)) + x3).toNatClampNeg v10) h _ _ _ hW hS (lv_sub hl [2, 3, 4, 0] rfl)
def fX12_swaps (x1 : Int32) (x2 : Int32) (σ : Mem) : Option Mem :=
  (fX12_swaps_l2 x1 x2 FU (0 : Int32) σ).bind fun q2 => some q2.2
set_option maxRecDepth 100000 in
set_option maxHeartbeats 4000000 in
theorem mX12_swaps {l : Launch} {E : Ev} {b : Nat} (x1 : Int32) (x2 : Int32) (σ : Mem) (r : Mem) (h : fX12_swaps x1 x2 σ = some r) : Met l yX12_swaps (tw yX12_swaps cX12_swaps 5 none) { frames := 1, cells := 0, slots := 0, locals := 22 } (va_Pc [.ref (b + 0), .int x1, .int x2] (Pr l E (LM E b) σ)) (Qz E (LM E b) none r) 0 0 (La (LM E b)) := by
  refine ct_of (by decide) (Nat.le_of_ble_eq_true rfl) ?_
  intro p e s m below meth c C hW hS ls hl
  have hx0 := C.1
  have hb := C.2.1
  have hl : lv_has ls 5 [(0, .ref (b + 0)), (1, .int x1), (2, .int x2)] := hl
  unfold fX12_swaps at h
  refine lv_iconst (v := (0 : Int32)) hx0 hb dX12_swaps_0 (by decide) ?_
  refine lv_istore_n (lv' := [(3, .int (0 : Int32)), (0, .ref (b + 0)), (1, .int x1), (2, .int x2)]) hx0 hb dX12_swaps_1 rfl hl (by decide) rfl (fun ls hl => ?_)
  obtain ⟨q2, h2, h⟩ := bnd h
  try dsimp only at h
  refine bX12_swaps_l2 C x1 x2  (q := q2) ?_ FU (0 : Int32) σ h2 _ _ _ hW hS (lv_sub hl [1, 2, 3, 0] rfl)
  intro H locs ls hW hS hl
  cases h
  exact w_vret C hW hS dX12_swaps_55
def fX12_goes_l14 (x2 : Int32) (x3 : Int32) : Nat → Int32 → Mem → Option (Int32 × Mem)
  | 0, _, _ => none
  | n + 1, x4, σ => if x4 = x2 then (some (x4, σ)) else ((fX12_swaps x4 (x4 + x3) σ).bind fun v27 => fX12_goes_l14 x2 x3 n (x4 + x3) v27)
set_option maxRecDepth 100000 in
set_option maxHeartbeats 4000000 in
theorem bX12_goes_l14 {p : Program} {l : Launch} {e : Env} {s : State} {m : MethodId} {args : Array Value} {below : List Frame} {meth : Method} {c : Code} {E : Ev} {b : Nat} (C : Cx p l s m args meth c E cX12_goes 5 RX12 none) (x2 : Int32) (x3 : Int32) {Qf : State → Prop} {q : Int32 × Mem} (hx : ∀ H locs ls, Wd E (LM E b) q.2 H → va_S (La (LM E b)) s.heap H locs → lv_has ls 5 [(0, .ref (b + 0)), (2, .int x2), (3, .int x3), (4, .int q.1)] → W p l e { frames := 2, cells := 0, slots := 0, locals := 46 } s m args below meth c H locs 0 0 Qf (F0 m 39 ls [])) : ∀ (n : Nat) (x4 : Int32) (σ : Mem), fX12_goes_l14 x2 x3 n x4 σ = some q → ∀ (H : Heap) (locs : List Loc) (ls : Array Slot), Wd E (LM E b) σ H → va_S (La (LM E b)) s.heap H locs → lv_has ls 5 [(0, .ref (b + 0)), (2, .int x2), (3, .int x3), (4, .int x4)] → W p l e { frames := 2, cells := 0, slots := 0, locals := 46 } s m args below meth c H locs 0 0 Qf (F0 m 14 ls []) := by
  have hx0 := C.1
  have hb := C.2.1
  intro n
  induction n with
  | zero => intro x4 σ h; simp [fX12_goes_l14] at h
  | succ n ih =>
    intro x4 σ h H locs ls hW hS hl
    unfold fX12_goes_l14 at h
    refine lv_iload hx0 hb dX12_goes_14 (lv_at hl 3 rfl) ?_
    refine lv_iload_n hx0 hb dX12_goes_16 rfl (lv_at hl 1 rfl) ?_
    refine lv_icmp_eq (tgt := 39) hx0 hb dX12_goes_17 (by decide) (fun c17 => ?_) (fun c17 => ?_)
    · rw [if_pos c17] at h
      cases h
      exact hx _ _ _ hW hS (lv_sub hl [0, 1, 2, 3] rfl)
    · rw [if_neg c17] at h
      refine lv_aload_n hx0 hb dX12_goes_20 rfl (lv_at hl 0 rfl) ?_
      refine lv_iload hx0 hb dX12_goes_21 (lv_at hl 3 rfl) ?_
      refine lv_iload hx0 hb dX12_goes_23 (lv_at hl 3 rfl) ?_
      refine lv_iload_n hx0 hb dX12_goes_25 rfl (lv_at hl 2 rfl) ?_
      refine lv_iadd hx0 hb dX12_goes_26 ?_
      obtain ⟨v27, h27, h⟩ := bnd h
      try dsimp only at h
      refine w_callV (L := (LM E b)) (k := 0) (As := [.int x4, .int (x4 + x3)]) (rest := []) C hW hS (show 0 < 18 by decide) cm0 kcX12 (mX12_swaps x4 (x4 + x3)  σ v27 h27) cwX12_swaps cvX12_swaps rfl mlX12_336 ⟨by decide, by decide⟩ rfl hl.1 (Nat.le_of_ble_eq_true rfl) ⟨by decide, by decide⟩ dX12_goes_27 rfl (fun H locs hW hS => ?_)
      refine lv_iload hx0 hb dX12_goes_30 (lv_at hl 3 rfl) ?_
      refine lv_iload_n hx0 hb dX12_goes_32 rfl (lv_at hl 2 rfl) ?_
      refine lv_iadd hx0 hb dX12_goes_33 ?_
      refine lv_istore (lv' := [(4, .int (x4 + x3)), (0, .ref (b + 0)), (2, .int x2), (3, .int x3)]) hx0 hb dX12_goes_34 hl (by decide) rfl (fun ls hl => ?_)
      refine lv_goto (tgt := 14) hx0 hb dX12_goes_36 (by decide) ?_
      exact ih (x4 + x3) v27 h _ _ _ hW hS (lv_sub hl [1, 2, 3, 0] rfl)
def fX12_goes_j10 (x1 : Int32) (x2 : Int32) (s0 : Int32) (σ : Mem) : Option (Mem) :=
  (fX12_goes_l14 x2 s0 FU x1 σ).bind fun q14 => some q14.2
set_option maxRecDepth 100000 in
set_option maxHeartbeats 4000000 in
theorem bX12_goes_j10 {p : Program} {l : Launch} {e : Env} {s : State} {m : MethodId} {args : Array Value} {below : List Frame} {meth : Method} {c : Code} {E : Ev} {b : Nat} (C : Cx p l s m args meth c E cX12_goes 5 RX12 none) (x1 : Int32) (x2 : Int32) (s0 : Int32) {r : Mem} (σ : Mem) (h : fX12_goes_j10 x1 x2 s0 σ = some r) (H : Heap) (locs : List Loc) (ls : Array Slot) (hW : Wd E (LM E b) σ H) (hS : va_S (La (LM E b)) s.heap H locs) (hl : lv_has ls 5 [(0, .ref (b + 0)), (1, .int x1), (2, .int x2)]) : W p l e { frames := 2, cells := 0, slots := 0, locals := 46 } s m args below meth c H locs 0 0 (MQ below (Qz E (LM E b) none r) args s 0 0 (La (LM E b))) (F0 m 10 ls [.int s0]) := by
  have hx0 := C.1
  have hb := C.2.1
  unfold fX12_goes_j10 at h
  refine lv_istore_n (lv' := [(3, .int s0), (0, .ref (b + 0)), (1, .int x1), (2, .int x2)]) hx0 hb dX12_goes_10 rfl hl (by decide) rfl (fun ls hl => ?_)
  refine lv_iload_n hx0 hb dX12_goes_11 rfl (lv_at hl 2 rfl) ?_
  refine lv_istore (lv' := [(4, .int x1), (3, .int s0), (0, .ref (b + 0)), (1, .int x1), (2, .int x2)]) hx0 hb dX12_goes_12 hl (by decide) rfl (fun ls hl => ?_)
  obtain ⟨q14, h14, h⟩ := bnd h
  try dsimp only at h
  refine bX12_goes_l14 C x2 s0  (q := q14) ?_ FU x1 σ h14 _ _ _ hW hS (lv_sub hl [2, 4, 1, 0] rfl)
  intro H locs ls hW hS hl
  cases h
  exact w_vret C hW hS dX12_goes_39
def fX12_goes (x1 : Int32) (x2 : Int32) (σ : Mem) : Option Mem :=
  if x2 ≤ x1 then (fX12_goes_j10 x1 x2 (-1 : Int32) σ) else (fX12_goes_j10 x1 x2 (1 : Int32) σ)
set_option maxRecDepth 100000 in
set_option maxHeartbeats 4000000 in
theorem mX12_goes {l : Launch} {E : Ev} {b : Nat} (x1 : Int32) (x2 : Int32) (σ : Mem) (r : Mem) (h : fX12_goes x1 x2 σ = some r) : Met l yX12_goes (tw yX12_goes cX12_goes 5 none) { frames := 2, cells := 0, slots := 0, locals := 46 } (va_Pc [.ref (b + 0), .int x1, .int x2] (Pr l E (LM E b) σ)) (Qz E (LM E b) none r) 0 0 (La (LM E b)) := by
  refine ct_of (by decide) (Nat.le_of_ble_eq_true rfl) ?_
  intro p e s m below meth c C hW hS ls hl
  have hx0 := C.1
  have hb := C.2.1
  have hl : lv_has ls 5 [(0, .ref (b + 0)), (1, .int x1), (2, .int x2)] := hl
  unfold fX12_goes at h
  refine lv_iload_n hx0 hb dX12_goes_0 rfl (lv_at hl 2 rfl) ?_
  refine lv_iload_n hx0 hb dX12_goes_1 rfl (lv_at hl 1 rfl) ?_
  refine lv_icmp_le (tgt := 9) hx0 hb dX12_goes_2 (by decide) (fun c2 => ?_) (fun c2 => ?_)
  · rw [if_pos c2] at h
    refine lv_iconst (v := (-1 : Int32)) hx0 hb dX12_goes_9 (by decide) ?_
    exact bX12_goes_j10 C x1 x2 (-1 : Int32) σ h _ _ _ hW hS (lv_sub hl [0, 1, 2] rfl)
  · rw [if_neg c2] at h
    refine lv_iconst (v := (1 : Int32)) hx0 hb dX12_goes_5 (by decide) ?_
    refine lv_goto (tgt := 10) hx0 hb dX12_goes_6 (by decide) ?_
    exact bX12_goes_j10 C x1 x2 (1 : Int32) σ h _ _ _ hW hS (lv_sub hl [0, 1, 2] rfl)
def fX12_removeScan (x1 : Int32) (σ : Mem) : Option (Int32 × Mem) :=
  (fX12_isScan x1 (up σ 0 0 (0 : Int32))).bind fun v7 => if v7 = 0 then ((fX12_fails (1 : Int32) (up σ 0 0 (0 : Int32))).bind fun v15 => some (v15.1, v15.2)) else ((fX12_remembers (up σ 0 0 (0 : Int32))).bind fun v20 => (fX12_ofScan x1 (0 : Int32) v20).bind fun v26 => if (2 : Int32) < 0 ∨ lm 3 ≤ (2 : Int32).toNatClampNeg then none else (fX12_goes x1 ((v20 3 (2 : Int32).toNatClampNeg) - (1 : Int32)) v20).bind fun v40 => if (2 : Int32) < 0 ∨ lm 3 ≤ (2 : Int32).toNatClampNeg then none else if (2 : Int32) < 0 ∨ lm 3 ≤ (2 : Int32).toNatClampNeg then none else some (v26, up v40 3 (2 : Int32).toNatClampNeg ((v40 3 (2 : Int32).toNatClampNeg) - (1 : Int32))))
set_option maxRecDepth 100000 in
set_option maxHeartbeats 4000000 in
theorem mX12_removeScan {l : Launch} {E : Ev} {b : Nat} (x1 : Int32) (σ : Mem) (r : (Int32 × Mem)) (h : fX12_removeScan x1 σ = some r) : Met l yX12_removeScan (tw yX12_removeScan cX12_removeScan 3 (some .int)) { frames := 3, cells := 0, slots := 0, locals := 70 } (va_Pc [.ref (b + 0), .int x1] (Pr l E (LM E b) σ)) (Qz E (LM E b) (some (.int r.1)) r.2) 0 0 (La (LM E b)) := by
  refine ct_of (by decide) (Nat.le_of_ble_eq_true rfl) ?_
  intro p e s m below meth c C hW hS ls hl
  have hx0 := C.1
  have hb := C.2.1
  have hl : lv_has ls 3 [(0, .ref (b + 0)), (1, .int x1)] := hl
  unfold fX12_removeScan at h
  refine lv_aload_n hx0 hb dX12_removeScan_0 rfl (lv_at hl 0 rfl) ?_
  refine lv_iconst (v := (0 : Int32)) hx0 hb dX12_removeScan_1 (by decide) ?_
  refine ptX12_0 C hW hS flX12_3 dX12_removeScan_2 (fun H locs hW hS => ?_)
  refine lv_aload_n hx0 hb dX12_removeScan_5 rfl (lv_at hl 0 rfl) ?_
  refine lv_iload_n hx0 hb dX12_removeScan_6 rfl (lv_at hl 1 rfl) ?_
  obtain ⟨v7, h7, h⟩ := bnd h
  try dsimp only at h
  refine w_callV (L := (LM E b)) (k := 0) (As := [.int x1]) (rest := []) C hW hS (show 0 < 18 by decide) cm0 kcX12 (mX12_isScan x1  (up σ 0 0 (0 : Int32)) v7 h7) cwX12_isScan cvX12_isScan rfl mlX12_339 ⟨by decide, by decide⟩ rfl hl.1 (Nat.le_of_ble_eq_true rfl) ⟨by decide, by decide⟩ dX12_removeScan_7 rfl (fun H locs hW hS => ?_)
  refine lv_if_ne (tgt := 19) hx0 hb dX12_removeScan_10 (by decide) (fun c10 => ?_) (fun c10 => ?_)
  · rw [if_neg c10] at h
    refine lv_aload_n hx0 hb dX12_removeScan_19 rfl (lv_at hl 0 rfl) ?_
    obtain ⟨v20, h20, h⟩ := bnd h
    try dsimp only at h
    refine w_callV (L := (LM E b)) (k := 0) (As := []) (rest := []) C hW hS (show 0 < 18 by decide) cm0 kcX12 (mX12_remembers   (up σ 0 0 (0 : Int32)) v20 h20) cwX12_remembers cvX12_remembers rfl mlX12_285 ⟨by decide, by decide⟩ rfl hl.1 (Nat.le_of_ble_eq_true rfl) ⟨by decide, by decide⟩ dX12_removeScan_20 rfl (fun H locs hW hS => ?_)
    refine lv_aload_n hx0 hb dX12_removeScan_23 rfl (lv_at hl 0 rfl) ?_
    refine lv_iload_n hx0 hb dX12_removeScan_24 rfl (lv_at hl 1 rfl) ?_
    refine lv_iconst (v := (0 : Int32)) hx0 hb dX12_removeScan_25 (by decide) ?_
    obtain ⟨v26, h26, h⟩ := bnd h
    try dsimp only at h
    refine w_callV (L := (LM E b)) (k := 0) (As := [.int x1, .int (0 : Int32)]) (rest := []) C hW hS (show 0 < 18 by decide) cm0 kcX12 (mX12_ofScan x1 (0 : Int32)  v20 v26 h26) cwX12_ofScan cvX12_ofScan rfl mlX12_266 ⟨by decide, by decide⟩ rfl hl.1 (Nat.le_of_ble_eq_true rfl) ⟨by decide, by decide⟩ dX12_removeScan_26 rfl (fun H locs hW hS => ?_)
    refine lv_istore_n (lv' := [(2, .int v26), (0, .ref (b + 0)), (1, .int x1)]) hx0 hb dX12_removeScan_29 rfl hl (by decide) rfl (fun ls hl => ?_)
    refine lv_aload_n hx0 hb dX12_removeScan_30 rfl (lv_at hl 1 rfl) ?_
    refine lv_iload_n hx0 hb dX12_removeScan_31 rfl (lv_at hl 2 rfl) ?_
    refine lv_aload_n hx0 hb dX12_removeScan_32 rfl (lv_at hl 1 rfl) ?_
    refine gtX12_5 C hW flX12_20 dX12_removeScan_33 ?_
    refine lv_iconst (v := (2 : Int32)) hx0 hb dX12_removeScan_36 (by decide) ?_
    by_cases z37 : (2 : Int32) < 0 ∨ lm 3 ≤ (2 : Int32).toNatClampNeg
    · rw [if_pos z37] at h; cases h
    rw [if_neg z37] at h
    refine ldIm (k := 3) C hW (by decide) z37 dX12_removeScan_37 ?_
    refine lv_iconst (v := (1 : Int32)) hx0 hb dX12_removeScan_38 (by decide) ?_
    refine lv_isub hx0 hb dX12_removeScan_39 ?_
    obtain ⟨v40, h40, h⟩ := bnd h
    try dsimp only at h
    refine w_callV (L := (LM E b)) (k := 0) (As := [.int x1, .int ((v20 3 (2 : Int32).toNatClampNeg) - (1 : Int32))]) (rest := []) C hW hS (show 0 < 18 by decide) cm0 kcX12 (mX12_goes x1 ((v20 3 (2 : Int32).toNatClampNeg) - (1 : Int32))  v20 v40 h40) cwX12_goes cvX12_goes rfl mlX12_342 ⟨by decide, by decide⟩ rfl hl.1 (Nat.le_of_ble_eq_true rfl) ⟨by decide, by decide⟩ dX12_removeScan_40 rfl (fun H locs hW hS => ?_)
    refine lv_aload_n hx0 hb dX12_removeScan_43 rfl (lv_at hl 1 rfl) ?_
    refine gtX12_5 C hW flX12_20 dX12_removeScan_44 ?_
    refine lv_iconst (v := (2 : Int32)) hx0 hb dX12_removeScan_47 (by decide) ?_
    refine lv_dup2_11 hx0 hb dX12_removeScan_48 rfl rfl ?_
    by_cases z49 : (2 : Int32) < 0 ∨ lm 3 ≤ (2 : Int32).toNatClampNeg
    · rw [if_pos z49] at h; cases h
    rw [if_neg z49] at h
    refine ldIm (k := 3) C hW (by decide) z49 dX12_removeScan_49 ?_
    refine lv_iconst (v := (1 : Int32)) hx0 hb dX12_removeScan_50 (by decide) ?_
    refine lv_isub hx0 hb dX12_removeScan_51 ?_
    by_cases z52 : (2 : Int32) < 0 ∨ lm 3 ≤ (2 : Int32).toNatClampNeg
    · rw [if_pos z52] at h; cases h
    rw [if_neg z52] at h
    refine saIm (k := 3) C hW hS (by decide) z52 dX12_removeScan_52 (fun H locs hW hS => ?_)
    refine lv_iload_n hx0 hb dX12_removeScan_53 rfl (lv_at hl 0 rfl) ?_
    cases h
    exact w_iret C hW hS dX12_removeScan_54
  · rw [if_pos c10] at h
    refine lv_aload_n hx0 hb dX12_removeScan_13 rfl (lv_at hl 0 rfl) ?_
    refine lv_iconst (v := (1 : Int32)) hx0 hb dX12_removeScan_14 (by decide) ?_
    obtain ⟨v15, h15, h⟩ := bnd h
    try dsimp only at h
    refine w_callV (L := (LM E b)) (k := 0) (As := [.int (1 : Int32)]) (rest := []) C hW hS (show 0 < 18 by decide) cm0 kcX12 (mX12_fails (1 : Int32)  (up σ 0 0 (0 : Int32)) v15 h15) cwX12_fails cvX12_fails rfl mlX12_94 ⟨by decide, by decide⟩ rfl hl.1 (Nat.le_of_ble_eq_true rfl) ⟨by decide, by decide⟩ dX12_removeScan_15 rfl (fun H locs hW hS => ?_)
    cases h
    exact w_iret C hW hS dX12_removeScan_18
def fX12_moveScan (x1 : Int32) (x2 : Int32) (σ : Mem) : Option (Int32 × Mem) :=
  (fX12_isScan x1 (up σ 0 0 (0 : Int32))).bind fun v7 => if v7 = 0 then ((fX12_fails (1 : Int32) (up σ 0 0 (0 : Int32))).bind fun v23 => some (v23.1, v23.2)) else ((fX12_isScan x2 (up σ 0 0 (0 : Int32))).bind fun v15 => if v15 = 0 then ((fX12_fails (1 : Int32) (up σ 0 0 (0 : Int32))).bind fun v23 => some (v23.1, v23.2)) else ((fX12_remembers (up σ 0 0 (0 : Int32))).bind fun v28 => (fX12_goes x1 x2 v28).bind fun v34 => (fX12_inversionsNow v34).bind fun v38 => some (v38.1, v38.2)))
set_option maxRecDepth 100000 in
set_option maxHeartbeats 4000000 in
theorem mX12_moveScan {l : Launch} {E : Ev} {b : Nat} (x1 : Int32) (x2 : Int32) (σ : Mem) (r : (Int32 × Mem)) (h : fX12_moveScan x1 x2 σ = some r) : Met l yX12_moveScan (tw yX12_moveScan cX12_moveScan 3 (some .int)) { frames := 5, cells := 0, slots := 0, locals := 113 } (va_Pc [.ref (b + 0), .int x1, .int x2] (Pr l E (LM E b) σ)) (Qz E (LM E b) (some (.int r.1)) r.2) 0 0 (La (LM E b)) := by
  refine ct_of (by decide) (Nat.le_of_ble_eq_true rfl) ?_
  intro p e s m below meth c C hW hS ls hl
  have hx0 := C.1
  have hb := C.2.1
  have hl : lv_has ls 3 [(0, .ref (b + 0)), (1, .int x1), (2, .int x2)] := hl
  unfold fX12_moveScan at h
  refine lv_aload_n hx0 hb dX12_moveScan_0 rfl (lv_at hl 0 rfl) ?_
  refine lv_iconst (v := (0 : Int32)) hx0 hb dX12_moveScan_1 (by decide) ?_
  refine ptX12_0 C hW hS flX12_3 dX12_moveScan_2 (fun H locs hW hS => ?_)
  refine lv_aload_n hx0 hb dX12_moveScan_5 rfl (lv_at hl 0 rfl) ?_
  refine lv_iload_n hx0 hb dX12_moveScan_6 rfl (lv_at hl 1 rfl) ?_
  obtain ⟨v7, h7, h⟩ := bnd h
  try dsimp only at h
  refine w_callV (L := (LM E b)) (k := 0) (As := [.int x1]) (rest := []) C hW hS (show 0 < 18 by decide) cm0 kcX12 (mX12_isScan x1  (up σ 0 0 (0 : Int32)) v7 h7) cwX12_isScan cvX12_isScan rfl mlX12_339 ⟨by decide, by decide⟩ rfl hl.1 (Nat.le_of_ble_eq_true rfl) ⟨by decide, by decide⟩ dX12_moveScan_7 rfl (fun H locs hW hS => ?_)
  refine lv_if_eq (tgt := 21) hx0 hb dX12_moveScan_10 (by decide) (fun c10 => ?_) (fun c10 => ?_)
  · rw [if_pos c10] at h
    refine lv_aload_n hx0 hb dX12_moveScan_21 rfl (lv_at hl 0 rfl) ?_
    refine lv_iconst (v := (1 : Int32)) hx0 hb dX12_moveScan_22 (by decide) ?_
    obtain ⟨v23, h23, h⟩ := bnd h
    try dsimp only at h
    refine w_callV (L := (LM E b)) (k := 0) (As := [.int (1 : Int32)]) (rest := []) C hW hS (show 0 < 18 by decide) cm0 kcX12 (mX12_fails (1 : Int32)  (up σ 0 0 (0 : Int32)) v23 h23) cwX12_fails cvX12_fails rfl mlX12_94 ⟨by decide, by decide⟩ rfl hl.1 (Nat.le_of_ble_eq_true rfl) ⟨by decide, by decide⟩ dX12_moveScan_23 rfl (fun H locs hW hS => ?_)
    cases h
    exact w_iret C hW hS dX12_moveScan_26
  · rw [if_neg c10] at h
    refine lv_aload_n hx0 hb dX12_moveScan_13 rfl (lv_at hl 0 rfl) ?_
    refine lv_iload_n hx0 hb dX12_moveScan_14 rfl (lv_at hl 2 rfl) ?_
    obtain ⟨v15, h15, h⟩ := bnd h
    try dsimp only at h
    refine w_callV (L := (LM E b)) (k := 0) (As := [.int x2]) (rest := []) C hW hS (show 0 < 18 by decide) cm0 kcX12 (mX12_isScan x2  (up σ 0 0 (0 : Int32)) v15 h15) cwX12_isScan cvX12_isScan rfl mlX12_339 ⟨by decide, by decide⟩ rfl hl.1 (Nat.le_of_ble_eq_true rfl) ⟨by decide, by decide⟩ dX12_moveScan_15 rfl (fun H locs hW hS => ?_)
    refine lv_if_ne (tgt := 27) hx0 hb dX12_moveScan_18 (by decide) (fun c18 => ?_) (fun c18 => ?_)
    · rw [if_neg c18] at h
      refine lv_aload_n hx0 hb dX12_moveScan_27 rfl (lv_at hl 0 rfl) ?_
      obtain ⟨v28, h28, h⟩ := bnd h
      try dsimp only at h
      refine w_callV (L := (LM E b)) (k := 0) (As := []) (rest := []) C hW hS (show 0 < 18 by decide) cm0 kcX12 (mX12_remembers   (up σ 0 0 (0 : Int32)) v28 h28) cwX12_remembers cvX12_remembers rfl mlX12_285 ⟨by decide, by decide⟩ rfl hl.1 (Nat.le_of_ble_eq_true rfl) ⟨by decide, by decide⟩ dX12_moveScan_28 rfl (fun H locs hW hS => ?_)
      refine lv_aload_n hx0 hb dX12_moveScan_31 rfl (lv_at hl 0 rfl) ?_
      refine lv_iload_n hx0 hb dX12_moveScan_32 rfl (lv_at hl 1 rfl) ?_
      refine lv_iload_n hx0 hb dX12_moveScan_33 rfl (lv_at hl 2 rfl) ?_
      obtain ⟨v34, h34, h⟩ := bnd h
      try dsimp only at h
      refine w_callV (L := (LM E b)) (k := 0) (As := [.int x1, .int x2]) (rest := []) C hW hS (show 0 < 18 by decide) cm0 kcX12 (mX12_goes x1 x2  v28 v34 h34) cwX12_goes cvX12_goes rfl mlX12_342 ⟨by decide, by decide⟩ rfl hl.1 (Nat.le_of_ble_eq_true rfl) ⟨by decide, by decide⟩ dX12_moveScan_34 rfl (fun H locs hW hS => ?_)
      refine lv_aload_n hx0 hb dX12_moveScan_37 rfl (lv_at hl 0 rfl) ?_
      obtain ⟨v38, h38, h⟩ := bnd h
      try dsimp only at h
      refine w_callV (L := (LM E b)) (k := 0) (As := []) (rest := []) C hW hS (show 0 < 18 by decide) cm0 kcX12 (mX12_inversionsNow   v34 v38 h38) cwX12_inversionsNow cvX12_inversionsNow rfl mlX12_345 ⟨by decide, by decide⟩ rfl hl.1 (Nat.le_of_ble_eq_true rfl) ⟨by decide, by decide⟩ dX12_moveScan_38 rfl (fun H locs hW hS => ?_)
      cases h
      exact w_iret C hW hS dX12_moveScan_41
    · rw [if_pos c18] at h
      refine lv_aload_n hx0 hb dX12_moveScan_21 rfl (lv_at hl 0 rfl) ?_
      refine lv_iconst (v := (1 : Int32)) hx0 hb dX12_moveScan_22 (by decide) ?_
      obtain ⟨v23, h23, h⟩ := bnd h
      try dsimp only at h
      refine w_callV (L := (LM E b)) (k := 0) (As := [.int (1 : Int32)]) (rest := []) C hW hS (show 0 < 18 by decide) cm0 kcX12 (mX12_fails (1 : Int32)  (up σ 0 0 (0 : Int32)) v23 h23) cwX12_fails cvX12_fails rfl mlX12_94 ⟨by decide, by decide⟩ rfl hl.1 (Nat.le_of_ble_eq_true rfl) ⟨by decide, by decide⟩ dX12_moveScan_23 rfl (fun H locs hW hS => ?_)
      cases h
      exact w_iret C hW hS dX12_moveScan_26
def fX12_rank (x1 : Int32) (σ : Mem) : Option (Int32 × Mem) :=
  (fX12_placeOfScan x1 σ).bind fun v2 => if v2.1 = (-1 : Int32) then (some ((144 : Int32), v2.2)) else (some (v2.1, v2.2))
set_option maxRecDepth 100000 in
set_option maxHeartbeats 4000000 in
theorem mX12_rank {l : Launch} {E : Ev} {b : Nat} (x1 : Int32) (σ : Mem) (r : (Int32 × Mem)) (h : fX12_rank x1 σ = some r) : Met l yX12_rank (tw yX12_rank cX12_rank 3 (some .int)) { frames := 3, cells := 0, slots := 0, locals := 67 } (va_Pc [.ref (b + 0), .int x1] (Pr l E (LM E b) σ)) (Qz E (LM E b) (some (.int r.1)) r.2) 0 0 (La (LM E b)) := by
  refine ct_of (by decide) (Nat.le_of_ble_eq_true rfl) ?_
  intro p e s m below meth c C hW hS ls hl
  have hx0 := C.1
  have hb := C.2.1
  have hl : lv_has ls 3 [(0, .ref (b + 0)), (1, .int x1)] := hl
  unfold fX12_rank at h
  refine lv_aload_n hx0 hb dX12_rank_0 rfl (lv_at hl 0 rfl) ?_
  refine lv_iload_n hx0 hb dX12_rank_1 rfl (lv_at hl 1 rfl) ?_
  obtain ⟨v2, h2, h⟩ := bnd h
  try dsimp only at h
  refine w_callV (L := (LM E b)) (k := 0) (As := [.int x1]) (rest := []) C hW hS (show 0 < 18 by decide) cm0 kcX12 (mX12_placeOfScan x1  σ v2 h2) cwX12_placeOfScan cvX12_placeOfScan rfl mlX12_291 ⟨by decide, by decide⟩ rfl hl.1 (Nat.le_of_ble_eq_true rfl) ⟨by decide, by decide⟩ dX12_rank_2 rfl (fun H locs hW hS => ?_)
  refine lv_istore_n (lv' := [(2, .int v2.1), (0, .ref (b + 0)), (1, .int x1)]) hx0 hb dX12_rank_5 rfl hl (by decide) rfl (fun ls hl => ?_)
  refine lv_iload_n hx0 hb dX12_rank_6 rfl (lv_at hl 0 rfl) ?_
  refine lv_iconst (v := (-1 : Int32)) hx0 hb dX12_rank_7 (by decide) ?_
  refine lv_icmp_ne (tgt := 17) hx0 hb dX12_rank_8 (by decide) (fun c8 => ?_) (fun c8 => ?_)
  · rw [if_neg c8] at h
    refine lv_iload_n hx0 hb dX12_rank_17 rfl (lv_at hl 0 rfl) ?_
    cases h
    exact w_iret C hW hS dX12_rank_18
  · rw [if_pos c8] at h
    refine lv_sipush (v := (144 : Int32)) hx0 hb dX12_rank_11 (by decide) ?_
    refine lv_goto (tgt := 18) hx0 hb dX12_rank_14 (by decide) ?_
    cases h
    exact w_iret C hW hS dX12_rank_18
def fX12_sortScans_l22 (x1 : Int32) : Nat → Int32 → Mem → Option (Int32 × Mem)
  | 0, _, _ => none
  | n + 1, x2, σ => if x1 ≤ x2 then (some (x2, σ)) else (if x2 < 0 ∨ lm 15 ≤ x2.toNatClampNeg then none else fX12_sortScans_l22 x1 n (x2 + (1 : Int32)) (up σ 15 x2.toNatClampNeg x2))
set_option maxRecDepth 100000 in
set_option maxHeartbeats 4000000 in
theorem bX12_sortScans_l22 {p : Program} {l : Launch} {e : Env} {s : State} {m : MethodId} {args : Array Value} {below : List Frame} {meth : Method} {c : Code} {E : Ev} {b : Nat} (C : Cx p l s m args meth c E cX12_sortScans 5 RX12 (some .int)) (x1 : Int32) {Qf : State → Prop} {q : Int32 × Mem} (hx : ∀ H locs ls, Wd E (LM E b) q.2 H → va_S (La (LM E b)) s.heap H locs → lv_has ls 5 [(0, .ref (b + 0)), (1, .int x1), (2, .int q.1)] → W p l e { frames := 4, cells := 0, slots := 0, locals := 89 } s m args below meth c H locs 0 0 Qf (F0 m 40 ls [])) : ∀ (n : Nat) (x2 : Int32) (σ : Mem), fX12_sortScans_l22 x1 n x2 σ = some q → ∀ (H : Heap) (locs : List Loc) (ls : Array Slot), Wd E (LM E b) σ H → va_S (La (LM E b)) s.heap H locs → lv_has ls 5 [(0, .ref (b + 0)), (1, .int x1), (2, .int x2)] → W p l e { frames := 4, cells := 0, slots := 0, locals := 89 } s m args below meth c H locs 0 0 Qf (F0 m 22 ls []) := by
  have hx0 := C.1
  have hb := C.2.1
  intro n
  induction n with
  | zero => intro x2 σ h; simp [fX12_sortScans_l22] at h
  | succ n ih =>
    intro x2 σ h H locs ls hW hS hl
    unfold fX12_sortScans_l22 at h
    refine lv_iload_n hx0 hb dX12_sortScans_22 rfl (lv_at hl 2 rfl) ?_
    refine lv_iload_n hx0 hb dX12_sortScans_23 rfl (lv_at hl 1 rfl) ?_
    refine lv_icmp_ge (tgt := 40) hx0 hb dX12_sortScans_24 (by decide) (fun c24 => ?_) (fun c24 => ?_)
    · rw [if_pos c24] at h
      cases h
      exact hx _ _ _ hW hS (lv_sub hl [0, 1, 2] rfl)
    · rw [if_neg c24] at h
      refine lv_aload_n hx0 hb dX12_sortScans_27 rfl (lv_at hl 0 rfl) ?_
      refine gtX12_27 C hW flX12_57 dX12_sortScans_28 ?_
      refine lv_iload_n hx0 hb dX12_sortScans_31 rfl (lv_at hl 2 rfl) ?_
      refine lv_iload_n hx0 hb dX12_sortScans_32 rfl (lv_at hl 2 rfl) ?_
      by_cases z33 : x2 < 0 ∨ lm 15 ≤ x2.toNatClampNeg
      · rw [if_pos z33] at h; cases h
      rw [if_neg z33] at h
      refine saIm (k := 15) C hW hS (by decide) z33 dX12_sortScans_33 (fun H locs hW hS => ?_)
      refine lv_iinc (v := x2 + (1 : Int32)) (lv' := [(2, .int (x2 + (1 : Int32))), (0, .ref (b + 0)), (1, .int x1)]) hx0 hb dX12_sortScans_34 hl (k := 2) rfl rfl (by decide) rfl (fun ls hl => ?_)
      refine lv_goto (tgt := 22) hx0 hb dX12_sortScans_37 (by decide) ?_
      exact ih (x2 + (1 : Int32)) (up σ 15 x2.toNatClampNeg x2) h _ _ _ hW hS (lv_sub hl [1, 2, 0] rfl)
def fX12_sortScans_l49 (x1 : Int32) (x2 : Int32) : Nat → Int32 → Mem → Option (Int32 × Mem)
  | 0, _, _ => none
  | n + 1, x3, σ => if x3 ≤ 0 then (some (x3, σ)) else ((fX12_rank x3 σ).bind fun v55 => (fX12_rank (x3 - (1 : Int32)) v55.2).bind fun v62 => if v62.1 ≤ v55.1 then (some (x3, v62.2)) else ((fX12_swaps x3 (x3 - (1 : Int32)) v62.2).bind fun v73 => if x3 < 0 ∨ lm 15 ≤ x3.toNatClampNeg then none else if (x3 - (1 : Int32)) < 0 ∨ lm 15 ≤ (x3 - (1 : Int32)).toNatClampNeg then none else if x3 < 0 ∨ lm 15 ≤ x3.toNatClampNeg then none else if (x3 - (1 : Int32)) < 0 ∨ lm 15 ≤ (x3 - (1 : Int32)).toNatClampNeg then none else fX12_sortScans_l49 x1 x2 n (x3 + (-1 : Int32)) (up (up v73 15 x3.toNatClampNeg (v73 15 (x3 - (1 : Int32)).toNatClampNeg)) 15 (x3 - (1 : Int32)).toNatClampNeg (v73 15 x3.toNatClampNeg))))
set_option maxRecDepth 100000 in
set_option maxHeartbeats 4000000 in
theorem bX12_sortScans_l49 {p : Program} {l : Launch} {e : Env} {s : State} {m : MethodId} {args : Array Value} {below : List Frame} {meth : Method} {c : Code} {E : Ev} {b : Nat} (C : Cx p l s m args meth c E cX12_sortScans 5 RX12 (some .int)) (x1 : Int32) (x2 : Int32) {Qf : State → Prop} {q : Int32 × Mem} (hx : ∀ H locs ls, Wd E (LM E b) q.2 H → va_S (La (LM E b)) s.heap H locs → lv_has ls 5 [(0, .ref (b + 0)), (1, .int x1), (2, .int x2), (3, .int q.1)] → W p l e { frames := 4, cells := 0, slots := 0, locals := 89 } s m args below meth c H locs 0 0 Qf (F0 m 114 ls [])) : ∀ (n : Nat) (x3 : Int32) (σ : Mem), fX12_sortScans_l49 x1 x2 n x3 σ = some q → ∀ (H : Heap) (locs : List Loc) (ls : Array Slot), Wd E (LM E b) σ H → va_S (La (LM E b)) s.heap H locs → lv_has ls 5 [(0, .ref (b + 0)), (1, .int x1), (2, .int x2), (3, .int x3)] → W p l e { frames := 4, cells := 0, slots := 0, locals := 89 } s m args below meth c H locs 0 0 Qf (F0 m 49 ls []) := by
  have hx0 := C.1
  have hb := C.2.1
  intro n
  induction n with
  | zero => intro x3 σ h; simp [fX12_sortScans_l49] at h
  | succ n ih =>
    intro x3 σ h H locs ls hW hS hl
    unfold fX12_sortScans_l49 at h
    refine lv_iload_n hx0 hb dX12_sortScans_49 rfl (lv_at hl 3 rfl) ?_
    refine lv_if_le (tgt := 114) hx0 hb dX12_sortScans_50 (by decide) (fun c50 => ?_) (fun c50 => ?_)
    · rw [if_pos c50] at h
      cases h
      exact hx _ _ _ hW hS (lv_sub hl [0, 1, 2, 3] rfl)
    · rw [if_neg c50] at h
      refine lv_aload_n hx0 hb dX12_sortScans_53 rfl (lv_at hl 0 rfl) ?_
      refine lv_iload_n hx0 hb dX12_sortScans_54 rfl (lv_at hl 3 rfl) ?_
      obtain ⟨v55, h55, h⟩ := bnd h
      try dsimp only at h
      refine w_callV (L := (LM E b)) (k := 0) (As := [.int x3]) (rest := []) C hW hS (show 0 < 18 by decide) cm0 kcX12 (mX12_rank x3  σ v55 h55) cwX12_rank cvX12_rank rfl mlX12_348 ⟨by decide, by decide⟩ rfl hl.1 (Nat.le_of_ble_eq_true rfl) ⟨by decide, by decide⟩ dX12_sortScans_55 rfl (fun H locs hW hS => ?_)
      refine lv_aload_n hx0 hb dX12_sortScans_58 rfl (lv_at hl 0 rfl) ?_
      refine lv_iload_n hx0 hb dX12_sortScans_59 rfl (lv_at hl 3 rfl) ?_
      refine lv_iconst (v := (1 : Int32)) hx0 hb dX12_sortScans_60 (by decide) ?_
      refine lv_isub hx0 hb dX12_sortScans_61 ?_
      obtain ⟨v62, h62, h⟩ := bnd h
      try dsimp only at h
      refine w_callV (L := (LM E b)) (k := 0) (As := [.int (x3 - (1 : Int32))]) (rest := [.int v55.1]) C hW hS (show 0 < 18 by decide) cm0 kcX12 (mX12_rank (x3 - (1 : Int32))  v55.2 v62 h62) cwX12_rank cvX12_rank rfl mlX12_348 ⟨by decide, by decide⟩ rfl hl.1 (Nat.le_of_ble_eq_true rfl) ⟨by decide, by decide⟩ dX12_sortScans_62 rfl (fun H locs hW hS => ?_)
      refine lv_icmp_ge (tgt := 114) hx0 hb dX12_sortScans_65 (by decide) (fun c65 => ?_) (fun c65 => ?_)
      · rw [if_pos c65] at h
        cases h
        exact hx _ _ _ hW hS (lv_sub hl [0, 1, 2, 3] rfl)
      · rw [if_neg c65] at h
        refine lv_aload_n hx0 hb dX12_sortScans_68 rfl (lv_at hl 0 rfl) ?_
        refine lv_iload_n hx0 hb dX12_sortScans_69 rfl (lv_at hl 3 rfl) ?_
        refine lv_iload_n hx0 hb dX12_sortScans_70 rfl (lv_at hl 3 rfl) ?_
        refine lv_iconst (v := (1 : Int32)) hx0 hb dX12_sortScans_71 (by decide) ?_
        refine lv_isub hx0 hb dX12_sortScans_72 ?_
        obtain ⟨v73, h73, h⟩ := bnd h
        try dsimp only at h
        refine w_callV (L := (LM E b)) (k := 0) (As := [.int x3, .int (x3 - (1 : Int32))]) (rest := []) C hW hS (show 0 < 18 by decide) cm0 kcX12 (mX12_swaps x3 (x3 - (1 : Int32))  v62.2 v73 h73) cwX12_swaps cvX12_swaps rfl mlX12_336 ⟨by decide, by decide⟩ rfl hl.1 (Nat.le_of_ble_eq_true rfl) ⟨by decide, by decide⟩ dX12_sortScans_73 rfl (fun H locs hW hS => ?_)
        refine lv_aload_n hx0 hb dX12_sortScans_76 rfl (lv_at hl 0 rfl) ?_
        refine gtX12_27 C hW flX12_57 dX12_sortScans_77 ?_
        refine lv_iload_n hx0 hb dX12_sortScans_80 rfl (lv_at hl 3 rfl) ?_
        by_cases z81 : x3 < 0 ∨ lm 15 ≤ x3.toNatClampNeg
        · rw [if_pos z81] at h; cases h
        rw [if_neg z81] at h
        refine ldIm (k := 15) C hW (by decide) z81 dX12_sortScans_81 ?_
        refine lv_istore (lv' := [(4, .int (v73 15 x3.toNatClampNeg)), (0, .ref (b + 0)), (1, .int x1), (2, .int x2), (3, .int x3)]) hx0 hb dX12_sortScans_82 hl (by decide) rfl (fun ls hl => ?_)
        refine lv_aload_n hx0 hb dX12_sortScans_84 rfl (lv_at hl 1 rfl) ?_
        refine gtX12_27 C hW flX12_57 dX12_sortScans_85 ?_
        refine lv_iload_n hx0 hb dX12_sortScans_88 rfl (lv_at hl 4 rfl) ?_
        refine lv_aload_n hx0 hb dX12_sortScans_89 rfl (lv_at hl 1 rfl) ?_
        refine gtX12_27 C hW flX12_57 dX12_sortScans_90 ?_
        refine lv_iload_n hx0 hb dX12_sortScans_93 rfl (lv_at hl 4 rfl) ?_
        refine lv_iconst (v := (1 : Int32)) hx0 hb dX12_sortScans_94 (by decide) ?_
        refine lv_isub hx0 hb dX12_sortScans_95 ?_
        by_cases z96 : (x3 - (1 : Int32)) < 0 ∨ lm 15 ≤ (x3 - (1 : Int32)).toNatClampNeg
        · rw [if_pos z96] at h; cases h
        rw [if_neg z96] at h
        refine ldIm (k := 15) C hW (by decide) z96 dX12_sortScans_96 ?_
        by_cases z97 : x3 < 0 ∨ lm 15 ≤ x3.toNatClampNeg
        · rw [if_pos z97] at h; cases h
        rw [if_neg z97] at h
        refine saIm (k := 15) C hW hS (by decide) z97 dX12_sortScans_97 (fun H locs hW hS => ?_)
        refine lv_aload_n hx0 hb dX12_sortScans_98 rfl (lv_at hl 1 rfl) ?_
        refine gtX12_27 C hW flX12_57 dX12_sortScans_99 ?_
        refine lv_iload_n hx0 hb dX12_sortScans_102 rfl (lv_at hl 4 rfl) ?_
        refine lv_iconst (v := (1 : Int32)) hx0 hb dX12_sortScans_103 (by decide) ?_
        refine lv_isub hx0 hb dX12_sortScans_104 ?_
        refine lv_iload hx0 hb dX12_sortScans_105 (lv_at hl 0 rfl) ?_
        by_cases z107 : (x3 - (1 : Int32)) < 0 ∨ lm 15 ≤ (x3 - (1 : Int32)).toNatClampNeg
        · rw [if_pos z107] at h; cases h
        rw [if_neg z107] at h
        refine saIm (k := 15) C hW hS (by decide) z107 dX12_sortScans_107 (fun H locs hW hS => ?_)
        refine lv_iinc (v := x3 + (-1 : Int32)) (lv' := [(3, .int (x3 + (-1 : Int32))), (4, .int (v73 15 x3.toNatClampNeg)), (0, .ref (b + 0)), (1, .int x1), (2, .int x2)]) hx0 hb dX12_sortScans_108 hl (k := 4) rfl rfl (by decide) rfl (fun ls hl => ?_)
        refine lv_goto (tgt := 49) hx0 hb dX12_sortScans_111 (by decide) ?_
        exact ih (x3 + (-1 : Int32)) (up (up v73 15 x3.toNatClampNeg (v73 15 (x3 - (1 : Int32)).toNatClampNeg)) 15 (x3 - (1 : Int32)).toNatClampNeg (v73 15 x3.toNatClampNeg)) h _ _ _ hW hS (lv_sub hl [2, 3, 4, 0] rfl)
def fX12_sortScans_l42 (x1 : Int32) : Nat → Int32 → Mem → Option (Int32 × Mem)
  | 0, _, _ => none
  | n + 1, x2, σ => if x1 ≤ x2 then (some (x2, σ)) else ((fX12_sortScans_l49 x1 x2 FU x2 σ).bind fun q49 => fX12_sortScans_l42 x1 n (x2 + (1 : Int32)) q49.2)
set_option maxRecDepth 100000 in
set_option maxHeartbeats 4000000 in
theorem bX12_sortScans_l42 {p : Program} {l : Launch} {e : Env} {s : State} {m : MethodId} {args : Array Value} {below : List Frame} {meth : Method} {c : Code} {E : Ev} {b : Nat} (C : Cx p l s m args meth c E cX12_sortScans 5 RX12 (some .int)) (x1 : Int32) {Qf : State → Prop} {q : Int32 × Mem} (hx : ∀ H locs ls, Wd E (LM E b) q.2 H → va_S (La (LM E b)) s.heap H locs → lv_has ls 5 [(0, .ref (b + 0)), (1, .int x1), (2, .int q.1)] → W p l e { frames := 4, cells := 0, slots := 0, locals := 89 } s m args below meth c H locs 0 0 Qf (F0 m 120 ls [])) : ∀ (n : Nat) (x2 : Int32) (σ : Mem), fX12_sortScans_l42 x1 n x2 σ = some q → ∀ (H : Heap) (locs : List Loc) (ls : Array Slot), Wd E (LM E b) σ H → va_S (La (LM E b)) s.heap H locs → lv_has ls 5 [(0, .ref (b + 0)), (1, .int x1), (2, .int x2)] → W p l e { frames := 4, cells := 0, slots := 0, locals := 89 } s m args below meth c H locs 0 0 Qf (F0 m 42 ls []) := by
  have hx0 := C.1
  have hb := C.2.1
  intro n
  induction n with
  | zero => intro x2 σ h; simp [fX12_sortScans_l42] at h
  | succ n ih =>
    intro x2 σ h H locs ls hW hS hl
    unfold fX12_sortScans_l42 at h
    refine lv_iload_n hx0 hb dX12_sortScans_42 rfl (lv_at hl 2 rfl) ?_
    refine lv_iload_n hx0 hb dX12_sortScans_43 rfl (lv_at hl 1 rfl) ?_
    refine lv_icmp_ge (tgt := 120) hx0 hb dX12_sortScans_44 (by decide) (fun c44 => ?_) (fun c44 => ?_)
    · rw [if_pos c44] at h
      cases h
      exact hx _ _ _ hW hS (lv_sub hl [0, 1, 2] rfl)
    · rw [if_neg c44] at h
      refine lv_iload_n hx0 hb dX12_sortScans_47 rfl (lv_at hl 2 rfl) ?_
      refine lv_istore_n (lv' := [(3, .int x2), (0, .ref (b + 0)), (1, .int x1), (2, .int x2)]) hx0 hb dX12_sortScans_48 rfl hl (by decide) rfl (fun ls hl => ?_)
      obtain ⟨q49, h49, h⟩ := bnd h
      try dsimp only at h
      refine bX12_sortScans_l49 C x1 x2  (q := q49) ?_ FU x2 σ h49 _ _ _ hW hS (lv_sub hl [1, 2, 3, 0] rfl)
      intro H locs ls hW hS hl
      refine lv_iinc (v := x2 + (1 : Int32)) (lv' := [(2, .int (x2 + (1 : Int32))), (0, .ref (b + 0)), (1, .int x1), (3, .int q49.1)]) hx0 hb dX12_sortScans_114 hl (k := 2) rfl rfl (by decide) rfl (fun ls hl => ?_)
      refine lv_goto (tgt := 42) hx0 hb dX12_sortScans_117 (by decide) ?_
      exact ih (x2 + (1 : Int32)) q49.2 h _ _ _ hW hS (lv_sub hl [1, 2, 0] rfl)
def fX12_sortScans_l124 (x1 : Int32) : Nat → Int32 → Int32 → Mem → Option (Int32 × Int32)
  | 0, _, _, _ => none
  | n + 1, x2, x3, σ => if x1 ≤ x3 then (some (x2, x3)) else (if x3 < 0 ∨ lm 15 ≤ x3.toNatClampNeg then none else if (σ 15 x3.toNatClampNeg) = x3 then (fX12_sortScans_l124 x1 n (x2 + (0 : Int32)) (x3 + (1 : Int32)) σ) else (fX12_sortScans_l124 x1 n (x2 + (1 : Int32)) (x3 + (1 : Int32)) σ))
set_option maxRecDepth 100000 in
set_option maxHeartbeats 4000000 in
theorem bX12_sortScans_l124 {p : Program} {l : Launch} {e : Env} {s : State} {m : MethodId} {args : Array Value} {below : List Frame} {meth : Method} {c : Code} {E : Ev} {b : Nat} (C : Cx p l s m args meth c E cX12_sortScans 5 RX12 (some .int)) (x1 : Int32) (σ : Mem) {Qf : State → Prop} {q : Int32 × Int32} (hx : ∀ H locs ls, Wd E (LM E b) σ H → va_S (La (LM E b)) s.heap H locs → lv_has ls 5 [(0, .ref (b + 0)), (1, .int x1), (2, .int q.1), (3, .int q.2)] → W p l e { frames := 4, cells := 0, slots := 0, locals := 89 } s m args below meth c H locs 0 0 Qf (F0 m 153 ls [])) : ∀ (n : Nat) (x2 : Int32) (x3 : Int32), fX12_sortScans_l124 x1 n x2 x3 σ = some q → ∀ (H : Heap) (locs : List Loc) (ls : Array Slot), Wd E (LM E b) σ H → va_S (La (LM E b)) s.heap H locs → lv_has ls 5 [(0, .ref (b + 0)), (1, .int x1), (2, .int x2), (3, .int x3)] → W p l e { frames := 4, cells := 0, slots := 0, locals := 89 } s m args below meth c H locs 0 0 Qf (F0 m 124 ls []) := by
  have hx0 := C.1
  have hb := C.2.1
  intro n
  induction n with
  | zero => intro x2 x3 h; simp [fX12_sortScans_l124] at h
  | succ n ih =>
    intro x2 x3 h H locs ls hW hS hl
    unfold fX12_sortScans_l124 at h
    refine lv_iload_n hx0 hb dX12_sortScans_124 rfl (lv_at hl 3 rfl) ?_
    refine lv_iload_n hx0 hb dX12_sortScans_125 rfl (lv_at hl 1 rfl) ?_
    refine lv_icmp_ge (tgt := 153) hx0 hb dX12_sortScans_126 (by decide) (fun c126 => ?_) (fun c126 => ?_)
    · rw [if_pos c126] at h
      cases h
      exact hx _ _ _ hW hS (lv_sub hl [0, 1, 2, 3] rfl)
    · rw [if_neg c126] at h
      refine lv_iload_n hx0 hb dX12_sortScans_129 rfl (lv_at hl 2 rfl) ?_
      refine lv_aload_n hx0 hb dX12_sortScans_130 rfl (lv_at hl 0 rfl) ?_
      refine gtX12_27 C hW flX12_57 dX12_sortScans_131 ?_
      refine lv_iload_n hx0 hb dX12_sortScans_134 rfl (lv_at hl 3 rfl) ?_
      by_cases z135 : x3 < 0 ∨ lm 15 ≤ x3.toNatClampNeg
      · rw [if_pos z135] at h; cases h
      rw [if_neg z135] at h
      refine ldIm (k := 15) C hW (by decide) z135 dX12_sortScans_135 ?_
      refine lv_iload_n hx0 hb dX12_sortScans_136 rfl (lv_at hl 3 rfl) ?_
      refine lv_icmp_eq (tgt := 144) hx0 hb dX12_sortScans_137 (by decide) (fun c137 => ?_) (fun c137 => ?_)
      · rw [if_pos c137] at h
        refine lv_iconst (v := (0 : Int32)) hx0 hb dX12_sortScans_144 (by decide) ?_
        refine lv_iadd hx0 hb dX12_sortScans_145 ?_
        refine lv_istore_n (lv' := [(2, .int (x2 + (0 : Int32))), (0, .ref (b + 0)), (1, .int x1), (3, .int x3)]) hx0 hb dX12_sortScans_146 rfl hl (by decide) rfl (fun ls hl => ?_)
        refine lv_iinc (v := x3 + (1 : Int32)) (lv' := [(3, .int (x3 + (1 : Int32))), (2, .int (x2 + (0 : Int32))), (0, .ref (b + 0)), (1, .int x1)]) hx0 hb dX12_sortScans_147 hl (k := 3) rfl rfl (by decide) rfl (fun ls hl => ?_)
        refine lv_goto (tgt := 124) hx0 hb dX12_sortScans_150 (by decide) ?_
        exact ih (x2 + (0 : Int32)) (x3 + (1 : Int32)) h _ _ _ hW hS (lv_sub hl [2, 3, 1, 0] rfl)
      · rw [if_neg c137] at h
        refine lv_iconst (v := (1 : Int32)) hx0 hb dX12_sortScans_140 (by decide) ?_
        refine lv_goto (tgt := 145) hx0 hb dX12_sortScans_141 (by decide) ?_
        refine lv_iadd hx0 hb dX12_sortScans_145 ?_
        refine lv_istore_n (lv' := [(2, .int (x2 + (1 : Int32))), (0, .ref (b + 0)), (1, .int x1), (3, .int x3)]) hx0 hb dX12_sortScans_146 rfl hl (by decide) rfl (fun ls hl => ?_)
        refine lv_iinc (v := x3 + (1 : Int32)) (lv' := [(3, .int (x3 + (1 : Int32))), (2, .int (x2 + (1 : Int32))), (0, .ref (b + 0)), (1, .int x1)]) hx0 hb dX12_sortScans_147 hl (k := 3) rfl rfl (by decide) rfl (fun ls hl => ?_)
        refine lv_goto (tgt := 124) hx0 hb dX12_sortScans_150 (by decide) ?_
        exact ih (x2 + (1 : Int32)) (x3 + (1 : Int32)) h _ _ _ hW hS (lv_sub hl [2, 3, 1, 0] rfl)
def fX12_sortScans (σ : Mem) : Option (Int32 × Mem) :=
  (fX12_remembers (up σ 0 0 (0 : Int32))).bind fun v6 => (fX12_laysOrder v6).bind fun v10 => if (2 : Int32) < 0 ∨ lm 3 ≤ (2 : Int32).toNatClampNeg then none else (fX12_sortScans_l22 (v10 3 (2 : Int32).toNatClampNeg) FU (0 : Int32) v10).bind fun q22 => (fX12_sortScans_l42 (v10 3 (2 : Int32).toNatClampNeg) FU (1 : Int32) q22.2).bind fun q42 => (fX12_sortScans_l124 (v10 3 (2 : Int32).toNatClampNeg) FU (0 : Int32) (0 : Int32) q42.2).bind fun q124 => some (q124.1, q42.2)
set_option maxRecDepth 100000 in
set_option maxHeartbeats 4000000 in
theorem mX12_sortScans {l : Launch} {E : Ev} {b : Nat} (σ : Mem) (r : (Int32 × Mem)) (h : fX12_sortScans σ = some r) : Met l yX12_sortScans (tw yX12_sortScans cX12_sortScans 5 (some .int)) { frames := 4, cells := 0, slots := 0, locals := 89 } (va_Pc [.ref (b + 0)] (Pr l E (LM E b) σ)) (Qz E (LM E b) (some (.int r.1)) r.2) 0 0 (La (LM E b)) := by
  refine ct_of (by decide) (Nat.le_of_ble_eq_true rfl) ?_
  intro p e s m below meth c C hW hS ls hl
  have hx0 := C.1
  have hb := C.2.1
  have hl : lv_has ls 5 [(0, .ref (b + 0))] := hl
  unfold fX12_sortScans at h
  refine lv_aload_n hx0 hb dX12_sortScans_0 rfl (lv_at hl 0 rfl) ?_
  refine lv_iconst (v := (0 : Int32)) hx0 hb dX12_sortScans_1 (by decide) ?_
  refine ptX12_0 C hW hS flX12_3 dX12_sortScans_2 (fun H locs hW hS => ?_)
  refine lv_aload_n hx0 hb dX12_sortScans_5 rfl (lv_at hl 0 rfl) ?_
  obtain ⟨v6, h6, h⟩ := bnd h
  try dsimp only at h
  refine w_callV (L := (LM E b)) (k := 0) (As := []) (rest := []) C hW hS (show 0 < 18 by decide) cm0 kcX12 (mX12_remembers   (up σ 0 0 (0 : Int32)) v6 h6) cwX12_remembers cvX12_remembers rfl mlX12_285 ⟨by decide, by decide⟩ rfl hl.1 (Nat.le_of_ble_eq_true rfl) ⟨by decide, by decide⟩ dX12_sortScans_6 rfl (fun H locs hW hS => ?_)
  refine lv_aload_n hx0 hb dX12_sortScans_9 rfl (lv_at hl 0 rfl) ?_
  obtain ⟨v10, h10, h⟩ := bnd h
  try dsimp only at h
  refine w_callV (L := (LM E b)) (k := 0) (As := []) (rest := []) C hW hS (show 0 < 18 by decide) cm0 kcX12 (mX12_laysOrder   v6 v10 h10) cwX12_laysOrder cvX12_laysOrder rfl mlX12_239 ⟨by decide, by decide⟩ rfl hl.1 (Nat.le_of_ble_eq_true rfl) ⟨by decide, by decide⟩ dX12_sortScans_10 rfl (fun H locs hW hS => ?_)
  refine lv_aload_n hx0 hb dX12_sortScans_13 rfl (lv_at hl 0 rfl) ?_
  refine gtX12_5 C hW flX12_20 dX12_sortScans_14 ?_
  refine lv_iconst (v := (2 : Int32)) hx0 hb dX12_sortScans_17 (by decide) ?_
  by_cases z18 : (2 : Int32) < 0 ∨ lm 3 ≤ (2 : Int32).toNatClampNeg
  · rw [if_pos z18] at h; cases h
  rw [if_neg z18] at h
  refine ldIm (k := 3) C hW (by decide) z18 dX12_sortScans_18 ?_
  refine lv_istore_n (lv' := [(1, .int (v10 3 (2 : Int32).toNatClampNeg)), (0, .ref (b + 0))]) hx0 hb dX12_sortScans_19 rfl hl (by decide) rfl (fun ls hl => ?_)
  refine lv_iconst (v := (0 : Int32)) hx0 hb dX12_sortScans_20 (by decide) ?_
  refine lv_istore_n (lv' := [(2, .int (0 : Int32)), (1, .int (v10 3 (2 : Int32).toNatClampNeg)), (0, .ref (b + 0))]) hx0 hb dX12_sortScans_21 rfl hl (by decide) rfl (fun ls hl => ?_)
  obtain ⟨q22, h22, h⟩ := bnd h
  try dsimp only at h
  refine bX12_sortScans_l22 C (v10 3 (2 : Int32).toNatClampNeg)  (q := q22) ?_ FU (0 : Int32) v10 h22 _ _ _ hW hS (lv_sub hl [2, 1, 0] rfl)
  intro H locs ls hW hS hl
  refine lv_iconst (v := (1 : Int32)) hx0 hb dX12_sortScans_40 (by decide) ?_
  refine lv_istore_n (lv' := [(2, .int (1 : Int32)), (0, .ref (b + 0)), (1, .int (v10 3 (2 : Int32).toNatClampNeg))]) hx0 hb dX12_sortScans_41 rfl hl (by decide) rfl (fun ls hl => ?_)
  obtain ⟨q42, h42, h⟩ := bnd h
  try dsimp only at h
  refine bX12_sortScans_l42 C (v10 3 (2 : Int32).toNatClampNeg)  (q := q42) ?_ FU (1 : Int32) q22.2 h42 _ _ _ hW hS (lv_sub hl [1, 2, 0] rfl)
  intro H locs ls hW hS hl
  refine lv_iconst (v := (0 : Int32)) hx0 hb dX12_sortScans_120 (by decide) ?_
  refine lv_istore_n (lv' := [(2, .int (0 : Int32)), (0, .ref (b + 0)), (1, .int (v10 3 (2 : Int32).toNatClampNeg))]) hx0 hb dX12_sortScans_121 rfl hl (by decide) rfl (fun ls hl => ?_)
  refine lv_iconst (v := (0 : Int32)) hx0 hb dX12_sortScans_122 (by decide) ?_
  refine lv_istore_n (lv' := [(3, .int (0 : Int32)), (2, .int (0 : Int32)), (0, .ref (b + 0)), (1, .int (v10 3 (2 : Int32).toNatClampNeg))]) hx0 hb dX12_sortScans_123 rfl hl (by decide) rfl (fun ls hl => ?_)
  obtain ⟨q124, h124, h⟩ := bnd h
  try dsimp only at h
  refine bX12_sortScans_l124 C (v10 3 (2 : Int32).toNatClampNeg)  q42.2 (q := q124) ?_ FU (0 : Int32) (0 : Int32) h124 _ _ _ hW hS (lv_sub hl [2, 3, 1, 0] rfl)
  intro H locs ls hW hS hl
  refine lv_iload_n hx0 hb dX12_sortScans_153 rfl (lv_at hl 2 rfl) ?_
  cases h
  exact w_iret C hW hS dX12_sortScans_154
def fX12_gapOf (x1 : Int32) (σ : Mem) : Option Int32 :=
  (fX12_leftOf x1 σ).bind fun v2 => (fX12_rightOf x1 σ).bind fun v8 => if v8 = (-1 : Int32) then ((fX12_leaves σ).bind fun v16 => some ((v16 - v2) - (1 : Int32))) else ((fX12_rightOf x1 σ).bind fun v24 => some ((v24 - v2) - (1 : Int32)))
set_option maxRecDepth 100000 in
set_option maxHeartbeats 4000000 in
theorem mX12_gapOf {l : Launch} {E : Ev} {b : Nat} (x1 : Int32) (σ : Mem) (r : Int32) (h : fX12_gapOf x1 σ = some r) : Met l yX12_gapOf (tw yX12_gapOf cX12_gapOf 4 (some .int)) { frames := 3, cells := 0, slots := 0, locals := 66 } (va_Pc [.ref (b + 0), .int x1] (Pr l E (LM E b) σ)) (Qz E (LM E b) (some (.int r)) σ) 0 0 (La (LM E b)) := by
  refine ct_of (by decide) (Nat.le_of_ble_eq_true rfl) ?_
  intro p e s m below meth c C hW hS ls hl
  have hx0 := C.1
  have hb := C.2.1
  have hl : lv_has ls 4 [(0, .ref (b + 0)), (1, .int x1)] := hl
  unfold fX12_gapOf at h
  refine lv_aload_n hx0 hb dX12_gapOf_0 rfl (lv_at hl 0 rfl) ?_
  refine lv_iload_n hx0 hb dX12_gapOf_1 rfl (lv_at hl 1 rfl) ?_
  obtain ⟨v2, h2, h⟩ := bnd h
  try dsimp only at h
  refine w_callV (L := (LM E b)) (k := 0) (As := [.int x1]) (rest := []) C hW hS (show 0 < 18 by decide) cm0 kcX12 (mX12_leftOf x1  σ v2 h2) cwX12_leftOf cvX12_leftOf rfl mlX12_330 ⟨by decide, by decide⟩ rfl hl.1 (Nat.le_of_ble_eq_true rfl) ⟨by decide, by decide⟩ dX12_gapOf_2 rfl (fun H locs hW hS => ?_)
  refine lv_istore_n (lv' := [(2, .int v2), (0, .ref (b + 0)), (1, .int x1)]) hx0 hb dX12_gapOf_5 rfl hl (by decide) rfl (fun ls hl => ?_)
  refine lv_aload_n hx0 hb dX12_gapOf_6 rfl (lv_at hl 1 rfl) ?_
  refine lv_iload_n hx0 hb dX12_gapOf_7 rfl (lv_at hl 2 rfl) ?_
  obtain ⟨v8, h8, h⟩ := bnd h
  try dsimp only at h
  refine w_callV (L := (LM E b)) (k := 0) (As := [.int x1]) (rest := []) C hW hS (show 0 < 18 by decide) cm0 kcX12 (mX12_rightOf x1  σ v8 h8) cwX12_rightOf cvX12_rightOf rfl mlX12_333 ⟨by decide, by decide⟩ rfl hl.1 (Nat.le_of_ble_eq_true rfl) ⟨by decide, by decide⟩ dX12_gapOf_8 rfl (fun H locs hW hS => ?_)
  refine lv_iconst (v := (-1 : Int32)) hx0 hb dX12_gapOf_11 (by decide) ?_
  refine lv_icmp_ne (tgt := 22) hx0 hb dX12_gapOf_12 (by decide) (fun c12 => ?_) (fun c12 => ?_)
  · rw [if_neg c12] at h
    refine lv_aload_n hx0 hb dX12_gapOf_22 rfl (lv_at hl 1 rfl) ?_
    refine lv_iload_n hx0 hb dX12_gapOf_23 rfl (lv_at hl 2 rfl) ?_
    obtain ⟨v24, h24, h⟩ := bnd h
    try dsimp only at h
    refine w_callV (L := (LM E b)) (k := 0) (As := [.int x1]) (rest := []) C hW hS (show 0 < 18 by decide) cm0 kcX12 (mX12_rightOf x1  σ v24 h24) cwX12_rightOf cvX12_rightOf rfl mlX12_333 ⟨by decide, by decide⟩ rfl hl.1 (Nat.le_of_ble_eq_true rfl) ⟨by decide, by decide⟩ dX12_gapOf_24 rfl (fun H locs hW hS => ?_)
    refine lv_istore_n (lv' := [(3, .int v24), (2, .int v2), (0, .ref (b + 0)), (1, .int x1)]) hx0 hb dX12_gapOf_27 rfl hl (by decide) rfl (fun ls hl => ?_)
    refine lv_iload_n hx0 hb dX12_gapOf_28 rfl (lv_at hl 0 rfl) ?_
    refine lv_iload_n hx0 hb dX12_gapOf_29 rfl (lv_at hl 1 rfl) ?_
    refine lv_isub hx0 hb dX12_gapOf_30 ?_
    refine lv_iconst (v := (1 : Int32)) hx0 hb dX12_gapOf_31 (by decide) ?_
    refine lv_isub hx0 hb dX12_gapOf_32 ?_
    cases h
    exact w_iret C hW hS dX12_gapOf_33
  · rw [if_pos c12] at h
    refine lv_aload_n hx0 hb dX12_gapOf_15 rfl (lv_at hl 1 rfl) ?_
    obtain ⟨v16, h16, h⟩ := bnd h
    try dsimp only at h
    refine w_callV (L := (LM E b)) (k := 0) (As := []) (rest := []) C hW hS (show 0 < 18 by decide) cm0 kcX12 (mX12_leaves   σ v16 h16) cwX12_leaves cvX12_leaves rfl mlX12_212 ⟨by decide, by decide⟩ rfl hl.1 (Nat.le_of_ble_eq_true rfl) ⟨by decide, by decide⟩ dX12_gapOf_16 rfl (fun H locs hW hS => ?_)
    refine lv_goto (tgt := 27) hx0 hb dX12_gapOf_19 (by decide) ?_
    refine lv_istore_n (lv' := [(3, .int v16), (2, .int v2), (0, .ref (b + 0)), (1, .int x1)]) hx0 hb dX12_gapOf_27 rfl hl (by decide) rfl (fun ls hl => ?_)
    refine lv_iload_n hx0 hb dX12_gapOf_28 rfl (lv_at hl 0 rfl) ?_
    refine lv_iload_n hx0 hb dX12_gapOf_29 rfl (lv_at hl 1 rfl) ?_
    refine lv_isub hx0 hb dX12_gapOf_30 ?_
    refine lv_iconst (v := (1 : Int32)) hx0 hb dX12_gapOf_31 (by decide) ?_
    refine lv_isub hx0 hb dX12_gapOf_32 ?_
    cases h
    exact w_iret C hW hS dX12_gapOf_33
def fX12_viewGoes_j57 (x1 : Int32) (σ : Mem) : Option (Mem) :=
  if (4 : Int32) < 0 ∨ lm 3 ≤ (4 : Int32).toNatClampNeg then none else if (3 : Int32) < 0 ∨ lm 3 ≤ (3 : Int32).toNatClampNeg then none else if ((269 : Int32) + (σ 3 (4 : Int32).toNatClampNeg)) < 0 ∨ lm 3 ≤ ((269 : Int32) + (σ 3 (4 : Int32).toNatClampNeg)).toNatClampNeg then none else if (4 : Int32) < 0 ∨ lm 3 ≤ (4 : Int32).toNatClampNeg then none else if (4 : Int32) < 0 ∨ lm 3 ≤ (4 : Int32).toNatClampNeg then none else if (3 : Int32) < 0 ∨ lm 3 ≤ (3 : Int32).toNatClampNeg then none else some (up (up (up σ 3 ((269 : Int32) + (σ 3 (4 : Int32).toNatClampNeg)).toNatClampNeg (σ 3 (3 : Int32).toNatClampNeg)) 3 (4 : Int32).toNatClampNeg (((up σ 3 ((269 : Int32) + (σ 3 (4 : Int32).toNatClampNeg)).toNatClampNeg (σ 3 (3 : Int32).toNatClampNeg)) 3 (4 : Int32).toNatClampNeg) + (1 : Int32))) 3 (3 : Int32).toNatClampNeg x1)
set_option maxRecDepth 100000 in
set_option maxHeartbeats 4000000 in
theorem bX12_viewGoes_j57 {p : Program} {l : Launch} {e : Env} {s : State} {m : MethodId} {args : Array Value} {below : List Frame} {meth : Method} {c : Code} {E : Ev} {b : Nat} (C : Cx p l s m args meth c E cX12_viewGoes 3 RX12 none) (x1 : Int32) {r : Mem} (σ : Mem) (h : fX12_viewGoes_j57 x1 σ = some r) (H : Heap) (locs : List Loc) (ls : Array Slot) (hW : Wd E (LM E b) σ H) (hS : va_S (La (LM E b)) s.heap H locs) (hl : lv_has ls 3 [(0, .ref (b + 0)), (1, .int x1)]) : W p l e { frames := 0, cells := 0, slots := 0, locals := 0 } s m args below meth c H locs 0 0 (MQ below (Qz E (LM E b) none r) args s 0 0 (La (LM E b))) (F0 m 57 ls []) := by
  have hx0 := C.1
  have hb := C.2.1
  unfold fX12_viewGoes_j57 at h
  refine lv_aload_n hx0 hb dX12_viewGoes_57 rfl (lv_at hl 0 rfl) ?_
  refine gtX12_5 C hW flX12_20 dX12_viewGoes_58 ?_
  refine lv_sipush (v := (269 : Int32)) hx0 hb dX12_viewGoes_61 (by decide) ?_
  refine lv_aload_n hx0 hb dX12_viewGoes_64 rfl (lv_at hl 0 rfl) ?_
  refine gtX12_5 C hW flX12_20 dX12_viewGoes_65 ?_
  refine lv_iconst (v := (4 : Int32)) hx0 hb dX12_viewGoes_68 (by decide) ?_
  by_cases z69 : (4 : Int32) < 0 ∨ lm 3 ≤ (4 : Int32).toNatClampNeg
  · rw [if_pos z69] at h; cases h
  rw [if_neg z69] at h
  refine ldIm (k := 3) C hW (by decide) z69 dX12_viewGoes_69 ?_
  refine lv_iadd hx0 hb dX12_viewGoes_70 ?_
  refine lv_aload_n hx0 hb dX12_viewGoes_71 rfl (lv_at hl 0 rfl) ?_
  refine gtX12_5 C hW flX12_20 dX12_viewGoes_72 ?_
  refine lv_iconst (v := (3 : Int32)) hx0 hb dX12_viewGoes_75 (by decide) ?_
  by_cases z76 : (3 : Int32) < 0 ∨ lm 3 ≤ (3 : Int32).toNatClampNeg
  · rw [if_pos z76] at h; cases h
  rw [if_neg z76] at h
  refine ldIm (k := 3) C hW (by decide) z76 dX12_viewGoes_76 ?_
  by_cases z77 : ((269 : Int32) + (σ 3 (4 : Int32).toNatClampNeg)) < 0 ∨ lm 3 ≤ ((269 : Int32) + (σ 3 (4 : Int32).toNatClampNeg)).toNatClampNeg
  · rw [if_pos z77] at h; cases h
  rw [if_neg z77] at h
  refine saIm (k := 3) C hW hS (by decide) z77 dX12_viewGoes_77 (fun H locs hW hS => ?_)
  refine lv_aload_n hx0 hb dX12_viewGoes_78 rfl (lv_at hl 0 rfl) ?_
  refine gtX12_5 C hW flX12_20 dX12_viewGoes_79 ?_
  refine lv_iconst (v := (4 : Int32)) hx0 hb dX12_viewGoes_82 (by decide) ?_
  refine lv_dup2_11 hx0 hb dX12_viewGoes_83 rfl rfl ?_
  by_cases z84 : (4 : Int32) < 0 ∨ lm 3 ≤ (4 : Int32).toNatClampNeg
  · rw [if_pos z84] at h; cases h
  rw [if_neg z84] at h
  refine ldIm (k := 3) C hW (by decide) z84 dX12_viewGoes_84 ?_
  refine lv_iconst (v := (1 : Int32)) hx0 hb dX12_viewGoes_85 (by decide) ?_
  refine lv_iadd hx0 hb dX12_viewGoes_86 ?_
  by_cases z87 : (4 : Int32) < 0 ∨ lm 3 ≤ (4 : Int32).toNatClampNeg
  · rw [if_pos z87] at h; cases h
  rw [if_neg z87] at h
  refine saIm (k := 3) C hW hS (by decide) z87 dX12_viewGoes_87 (fun H locs hW hS => ?_)
  refine lv_aload_n hx0 hb dX12_viewGoes_88 rfl (lv_at hl 0 rfl) ?_
  refine gtX12_5 C hW flX12_20 dX12_viewGoes_89 ?_
  refine lv_iconst (v := (3 : Int32)) hx0 hb dX12_viewGoes_92 (by decide) ?_
  refine lv_iload_n hx0 hb dX12_viewGoes_93 rfl (lv_at hl 1 rfl) ?_
  by_cases z94 : (3 : Int32) < 0 ∨ lm 3 ≤ (3 : Int32).toNatClampNeg
  · rw [if_pos z94] at h; cases h
  rw [if_neg z94] at h
  refine saIm (k := 3) C hW hS (by decide) z94 dX12_viewGoes_94 (fun H locs hW hS => ?_)
  cases h
  exact w_vret C hW hS dX12_viewGoes_95
def fX12_viewGoes_l13 (x1 : Int32) : Nat → Int32 → Mem → Option (Int32 × Mem)
  | 0, _, _ => none
  | n + 1, x2, σ => if (10 : Int32) ≤ x2 then (some (x2, σ)) else (if ((269 : Int32) + x2) < 0 ∨ lm 3 ≤ ((269 : Int32) + x2).toNatClampNeg then none else if (((269 : Int32) + x2) - (1 : Int32)) < 0 ∨ lm 3 ≤ (((269 : Int32) + x2) - (1 : Int32)).toNatClampNeg then none else fX12_viewGoes_l13 x1 n (x2 + (1 : Int32)) (up σ 3 (((269 : Int32) + x2) - (1 : Int32)).toNatClampNeg (σ 3 ((269 : Int32) + x2).toNatClampNeg)))
set_option maxRecDepth 100000 in
set_option maxHeartbeats 4000000 in
theorem bX12_viewGoes_l13 {p : Program} {l : Launch} {e : Env} {s : State} {m : MethodId} {args : Array Value} {below : List Frame} {meth : Method} {c : Code} {E : Ev} {b : Nat} (C : Cx p l s m args meth c E cX12_viewGoes 3 RX12 none) (x1 : Int32) {Qf : State → Prop} {q : Int32 × Mem} (hx : ∀ H locs ls, Wd E (LM E b) q.2 H → va_S (La (LM E b)) s.heap H locs → lv_has ls 3 [(0, .ref (b + 0)), (1, .int x1), (2, .int q.1)] → W p l e { frames := 0, cells := 0, slots := 0, locals := 0 } s m args below meth c H locs 0 0 Qf (F0 m 47 ls [])) : ∀ (n : Nat) (x2 : Int32) (σ : Mem), fX12_viewGoes_l13 x1 n x2 σ = some q → ∀ (H : Heap) (locs : List Loc) (ls : Array Slot), Wd E (LM E b) σ H → va_S (La (LM E b)) s.heap H locs → lv_has ls 3 [(0, .ref (b + 0)), (1, .int x1), (2, .int x2)] → W p l e { frames := 0, cells := 0, slots := 0, locals := 0 } s m args below meth c H locs 0 0 Qf (F0 m 13 ls []) := by
  have hx0 := C.1
  have hb := C.2.1
  intro n
  induction n with
  | zero => intro x2 σ h; simp [fX12_viewGoes_l13] at h
  | succ n ih =>
    intro x2 σ h H locs ls hW hS hl
    unfold fX12_viewGoes_l13 at h
    refine lv_iload_n hx0 hb dX12_viewGoes_13 rfl (lv_at hl 2 rfl) ?_
    refine lv_bipush (v := (10 : Int32)) hx0 hb dX12_viewGoes_14 (by decide) ?_
    refine lv_icmp_ge (tgt := 47) hx0 hb dX12_viewGoes_16 (by decide) (fun c16 => ?_) (fun c16 => ?_)
    · rw [if_pos c16] at h
      cases h
      exact hx _ _ _ hW hS (lv_sub hl [0, 1, 2] rfl)
    · rw [if_neg c16] at h
      refine lv_aload_n hx0 hb dX12_viewGoes_19 rfl (lv_at hl 0 rfl) ?_
      refine gtX12_5 C hW flX12_20 dX12_viewGoes_20 ?_
      refine lv_sipush (v := (269 : Int32)) hx0 hb dX12_viewGoes_23 (by decide) ?_
      refine lv_iload_n hx0 hb dX12_viewGoes_26 rfl (lv_at hl 2 rfl) ?_
      refine lv_iadd hx0 hb dX12_viewGoes_27 ?_
      refine lv_iconst (v := (1 : Int32)) hx0 hb dX12_viewGoes_28 (by decide) ?_
      refine lv_isub hx0 hb dX12_viewGoes_29 ?_
      refine lv_aload_n hx0 hb dX12_viewGoes_30 rfl (lv_at hl 0 rfl) ?_
      refine gtX12_5 C hW flX12_20 dX12_viewGoes_31 ?_
      refine lv_sipush (v := (269 : Int32)) hx0 hb dX12_viewGoes_34 (by decide) ?_
      refine lv_iload_n hx0 hb dX12_viewGoes_37 rfl (lv_at hl 2 rfl) ?_
      refine lv_iadd hx0 hb dX12_viewGoes_38 ?_
      by_cases z39 : ((269 : Int32) + x2) < 0 ∨ lm 3 ≤ ((269 : Int32) + x2).toNatClampNeg
      · rw [if_pos z39] at h; cases h
      rw [if_neg z39] at h
      refine ldIm (k := 3) C hW (by decide) z39 dX12_viewGoes_39 ?_
      by_cases z40 : (((269 : Int32) + x2) - (1 : Int32)) < 0 ∨ lm 3 ≤ (((269 : Int32) + x2) - (1 : Int32)).toNatClampNeg
      · rw [if_pos z40] at h; cases h
      rw [if_neg z40] at h
      refine saIm (k := 3) C hW hS (by decide) z40 dX12_viewGoes_40 (fun H locs hW hS => ?_)
      refine lv_iinc (v := x2 + (1 : Int32)) (lv' := [(2, .int (x2 + (1 : Int32))), (0, .ref (b + 0)), (1, .int x1)]) hx0 hb dX12_viewGoes_41 hl (k := 2) rfl rfl (by decide) rfl (fun ls hl => ?_)
      refine lv_goto (tgt := 13) hx0 hb dX12_viewGoes_44 (by decide) ?_
      exact ih (x2 + (1 : Int32)) (up σ 3 (((269 : Int32) + x2) - (1 : Int32)).toNatClampNeg (σ 3 ((269 : Int32) + x2).toNatClampNeg)) h _ _ _ hW hS (lv_sub hl [1, 2, 0] rfl)
def fX12_viewGoes (x1 : Int32) (σ : Mem) : Option Mem :=
  if (4 : Int32) < 0 ∨ lm 3 ≤ (4 : Int32).toNatClampNeg then none else if (σ 3 (4 : Int32).toNatClampNeg) = (10 : Int32) then ((fX12_viewGoes_l13 x1 FU (1 : Int32) σ).bind fun q13 => if (4 : Int32) < 0 ∨ lm 3 ≤ (4 : Int32).toNatClampNeg then none else if (4 : Int32) < 0 ∨ lm 3 ≤ (4 : Int32).toNatClampNeg then none else fX12_viewGoes_j57 x1 (up q13.2 3 (4 : Int32).toNatClampNeg ((q13.2 3 (4 : Int32).toNatClampNeg) - (1 : Int32)))) else (fX12_viewGoes_j57 x1 σ)
set_option maxRecDepth 100000 in
set_option maxHeartbeats 4000000 in
theorem mX12_viewGoes {l : Launch} {E : Ev} {b : Nat} (x1 : Int32) (σ : Mem) (r : Mem) (h : fX12_viewGoes x1 σ = some r) : Met l yX12_viewGoes (tw yX12_viewGoes cX12_viewGoes 3 none) { frames := 0, cells := 0, slots := 0, locals := 0 } (va_Pc [.ref (b + 0), .int x1] (Pr l E (LM E b) σ)) (Qz E (LM E b) none r) 0 0 (La (LM E b)) := by
  refine ct_of (by decide) (Nat.le_of_ble_eq_true rfl) ?_
  intro p e s m below meth c C hW hS ls hl
  have hx0 := C.1
  have hb := C.2.1
  have hl : lv_has ls 3 [(0, .ref (b + 0)), (1, .int x1)] := hl
  unfold fX12_viewGoes at h
  refine lv_aload_n hx0 hb dX12_viewGoes_0 rfl (lv_at hl 0 rfl) ?_
  refine gtX12_5 C hW flX12_20 dX12_viewGoes_1 ?_
  refine lv_iconst (v := (4 : Int32)) hx0 hb dX12_viewGoes_4 (by decide) ?_
  by_cases z5 : (4 : Int32) < 0 ∨ lm 3 ≤ (4 : Int32).toNatClampNeg
  · rw [if_pos z5] at h; cases h
  rw [if_neg z5] at h
  refine ldIm (k := 3) C hW (by decide) z5 dX12_viewGoes_5 ?_
  refine lv_bipush (v := (10 : Int32)) hx0 hb dX12_viewGoes_6 (by decide) ?_
  refine lv_icmp_ne (tgt := 57) hx0 hb dX12_viewGoes_8 (by decide) (fun c8 => ?_) (fun c8 => ?_)
  · rw [if_neg c8] at h
    exact bX12_viewGoes_j57 C x1 σ h _ _ _ hW hS (lv_sub hl [0, 1] rfl)
  · rw [if_pos c8] at h
    refine lv_iconst (v := (1 : Int32)) hx0 hb dX12_viewGoes_11 (by decide) ?_
    refine lv_istore_n (lv' := [(2, .int (1 : Int32)), (0, .ref (b + 0)), (1, .int x1)]) hx0 hb dX12_viewGoes_12 rfl hl (by decide) rfl (fun ls hl => ?_)
    obtain ⟨q13, h13, h⟩ := bnd h
    try dsimp only at h
    refine bX12_viewGoes_l13 C x1  (q := q13) ?_ FU (1 : Int32) σ h13 _ _ _ hW hS (lv_sub hl [1, 2, 0] rfl)
    intro H locs ls hW hS hl
    refine lv_aload_n hx0 hb dX12_viewGoes_47 rfl (lv_at hl 0 rfl) ?_
    refine gtX12_5 C hW flX12_20 dX12_viewGoes_48 ?_
    refine lv_iconst (v := (4 : Int32)) hx0 hb dX12_viewGoes_51 (by decide) ?_
    refine lv_dup2_11 hx0 hb dX12_viewGoes_52 rfl rfl ?_
    by_cases z53 : (4 : Int32) < 0 ∨ lm 3 ≤ (4 : Int32).toNatClampNeg
    · rw [if_pos z53] at h; cases h
    rw [if_neg z53] at h
    refine ldIm (k := 3) C hW (by decide) z53 dX12_viewGoes_53 ?_
    refine lv_iconst (v := (1 : Int32)) hx0 hb dX12_viewGoes_54 (by decide) ?_
    refine lv_isub hx0 hb dX12_viewGoes_55 ?_
    by_cases z56 : (4 : Int32) < 0 ∨ lm 3 ≤ (4 : Int32).toNatClampNeg
    · rw [if_pos z56] at h; cases h
    rw [if_neg z56] at h
    refine saIm (k := 3) C hW hS (by decide) z56 dX12_viewGoes_56 (fun H locs hW hS => ?_)
    exact bX12_viewGoes_j57 C x1 (up q13.2 3 (4 : Int32).toNatClampNeg ((q13.2 3 (4 : Int32).toNatClampNeg) - (1 : Int32))) h _ _ _ hW hS (lv_sub hl [0, 1] rfl)
def fX12_turn (x1 : Int32) (σ : Mem) : Option (Int32 × Mem) :=
  if x1 = 0 then ((fX12_fails (1 : Int32) (up σ 0 0 (0 : Int32))).bind fun v11 => some (v11.1, v11.2)) else (if (3 : Int32) < 0 ∨ lm 3 ≤ (3 : Int32).toNatClampNeg then none else (fX12_openings (up σ 0 0 (0 : Int32))).bind fun v29 => (fX12_isIn ((((up σ 0 0 (0 : Int32)) 3 (3 : Int32).toNatClampNeg).toInt64) + x1.toInt64) (0 : Int64) ((v29 - (1 : Int32)).toInt64) (up σ 0 0 (0 : Int32))).bind fun v35 => if v35 = 0 then ((fX12_fails (2 : Int32) (up σ 0 0 (0 : Int32))).bind fun v43 => some (v43.1, v43.2)) else ((fX12_remembers (up σ 0 0 (0 : Int32))).bind fun v48 => (fX12_viewGoes (((((up σ 0 0 (0 : Int32)) 3 (3 : Int32).toNatClampNeg).toInt64) + x1.toInt64).toInt32) v48).bind fun v54 => if (3 : Int32) < 0 ∨ lm 3 ≤ (3 : Int32).toNatClampNeg then none else some (v54 3 (3 : Int32).toNatClampNeg, v54)))
set_option maxRecDepth 100000 in
set_option maxHeartbeats 4000000 in
theorem mX12_turn {l : Launch} {E : Ev} {b : Nat} (x1 : Int32) (σ : Mem) (r : (Int32 × Mem)) (h : fX12_turn x1 σ = some r) : Met l yX12_turn (tw yX12_turn cX12_turn 4 (some .int)) { frames := 3, cells := 0, slots := 0, locals := 64 } (va_Pc [.ref (b + 0), .int x1] (Pr l E (LM E b) σ)) (Qz E (LM E b) (some (.int r.1)) r.2) 0 0 (La (LM E b)) := by
  refine ct_of (by decide) (Nat.le_of_ble_eq_true rfl) ?_
  intro p e s m below meth c C hW hS ls hl
  have hx0 := C.1
  have hb := C.2.1
  have hl : lv_has ls 4 [(0, .ref (b + 0)), (1, .int x1)] := hl
  unfold fX12_turn at h
  refine lv_aload_n hx0 hb dX12_turn_0 rfl (lv_at hl 0 rfl) ?_
  refine lv_iconst (v := (0 : Int32)) hx0 hb dX12_turn_1 (by decide) ?_
  refine ptX12_0 C hW hS flX12_3 dX12_turn_2 (fun H locs hW hS => ?_)
  refine lv_iload_n hx0 hb dX12_turn_5 rfl (lv_at hl 1 rfl) ?_
  refine lv_if_ne (tgt := 15) hx0 hb dX12_turn_6 (by decide) (fun c6 => ?_) (fun c6 => ?_)
  · rw [if_neg c6] at h
    refine lv_aload_n hx0 hb dX12_turn_15 rfl (lv_at hl 0 rfl) ?_
    refine gtX12_5 C hW flX12_20 dX12_turn_16 ?_
    refine lv_iconst (v := (3 : Int32)) hx0 hb dX12_turn_19 (by decide) ?_
    by_cases z20 : (3 : Int32) < 0 ∨ lm 3 ≤ (3 : Int32).toNatClampNeg
    · rw [if_pos z20] at h; cases h
    rw [if_neg z20] at h
    refine ldIm (k := 3) C hW (by decide) z20 dX12_turn_20 ?_
    refine lv_i2l hx0 hb dX12_turn_21 rfl ?_
    refine lv_iload_n hx0 hb dX12_turn_22 rfl (lv_at hl 1 rfl) ?_
    refine lv_i2l hx0 hb dX12_turn_23 rfl ?_
    refine lv_ladd hx0 hb dX12_turn_24 ?_
    refine lv_lstore_n (lv' := [(2, .long ((((up σ 0 0 (0 : Int32)) 3 (3 : Int32).toNatClampNeg).toInt64) + x1.toInt64)), (0, .ref (b + 0)), (1, .int x1)]) hx0 hb dX12_turn_25 rfl hl (by decide) rfl (fun ls hl => ?_)
    refine lv_lload_n hx0 hb dX12_turn_26 rfl (lv_at hl 0 rfl) ?_
    refine lv_lconst (v := (0 : Int64)) hx0 hb dX12_turn_27 (by decide) ?_
    refine lv_aload_n hx0 hb dX12_turn_28 rfl (lv_at hl 1 rfl) ?_
    obtain ⟨v29, h29, h⟩ := bnd h
    try dsimp only at h
    refine w_callV (L := (LM E b)) (k := 0) (As := []) (rest := [.long (0 : Int64), .long ((((up σ 0 0 (0 : Int32)) 3 (3 : Int32).toNatClampNeg).toInt64) + x1.toInt64)]) C hW hS (show 0 < 18 by decide) cm0 kcX12 (mX12_openings   (up σ 0 0 (0 : Int32)) v29 h29) cwX12_openings cvX12_openings rfl mlX12_351 ⟨by decide, by decide⟩ rfl hl.1 (Nat.le_of_ble_eq_true rfl) ⟨by decide, by decide⟩ dX12_turn_29 rfl (fun H locs hW hS => ?_)
    refine lv_iconst (v := (1 : Int32)) hx0 hb dX12_turn_32 (by decide) ?_
    refine lv_isub hx0 hb dX12_turn_33 ?_
    refine lv_i2l hx0 hb dX12_turn_34 rfl ?_
    obtain ⟨v35, h35, h⟩ := bnd h
    try dsimp only at h
    refine w_callS (L := (LM E b)) (As := [.long ((((up σ 0 0 (0 : Int32)) 3 (3 : Int32).toNatClampNeg).toInt64) + x1.toInt64), .long (0 : Int64), .long ((v29 - (1 : Int32)).toInt64)]) (rest := []) C hW hS (mX12_isIn ((((up σ 0 0 (0 : Int32)) 3 (3 : Int32).toNatClampNeg).toInt64) + x1.toInt64) (0 : Int64) ((v29 - (1 : Int32)).toInt64)  (up σ 0 0 (0 : Int32)) v35 h35) cwX12_isIn csX12_isIn mlX12_101 ⟨by decide, by decide⟩ rfl hl.1 (Nat.le_of_ble_eq_true rfl) ⟨by decide, by decide⟩ dX12_turn_35 rfl (fun H locs hW hS => ?_)
    refine lv_if_ne (tgt := 47) hx0 hb dX12_turn_38 (by decide) (fun c38 => ?_) (fun c38 => ?_)
    · rw [if_neg c38] at h
      refine lv_aload_n hx0 hb dX12_turn_47 rfl (lv_at hl 1 rfl) ?_
      obtain ⟨v48, h48, h⟩ := bnd h
      try dsimp only at h
      refine w_callV (L := (LM E b)) (k := 0) (As := []) (rest := []) C hW hS (show 0 < 18 by decide) cm0 kcX12 (mX12_remembers   (up σ 0 0 (0 : Int32)) v48 h48) cwX12_remembers cvX12_remembers rfl mlX12_285 ⟨by decide, by decide⟩ rfl hl.1 (Nat.le_of_ble_eq_true rfl) ⟨by decide, by decide⟩ dX12_turn_48 rfl (fun H locs hW hS => ?_)
      refine lv_aload_n hx0 hb dX12_turn_51 rfl (lv_at hl 1 rfl) ?_
      refine lv_lload_n hx0 hb dX12_turn_52 rfl (lv_at hl 0 rfl) ?_
      refine lv_l2i hx0 hb dX12_turn_53 rfl ?_
      obtain ⟨v54, h54, h⟩ := bnd h
      try dsimp only at h
      refine w_callV (L := (LM E b)) (k := 0) (As := [.int (((((up σ 0 0 (0 : Int32)) 3 (3 : Int32).toNatClampNeg).toInt64) + x1.toInt64).toInt32)]) (rest := []) C hW hS (show 0 < 18 by decide) cm0 kcX12 (mX12_viewGoes (((((up σ 0 0 (0 : Int32)) 3 (3 : Int32).toNatClampNeg).toInt64) + x1.toInt64).toInt32)  v48 v54 h54) cwX12_viewGoes cvX12_viewGoes rfl mlX12_357 ⟨by decide, by decide⟩ rfl hl.1 (Nat.le_of_ble_eq_true rfl) ⟨by decide, by decide⟩ dX12_turn_54 rfl (fun H locs hW hS => ?_)
      refine lv_aload_n hx0 hb dX12_turn_57 rfl (lv_at hl 1 rfl) ?_
      refine gtX12_5 C hW flX12_20 dX12_turn_58 ?_
      refine lv_iconst (v := (3 : Int32)) hx0 hb dX12_turn_61 (by decide) ?_
      by_cases z62 : (3 : Int32) < 0 ∨ lm 3 ≤ (3 : Int32).toNatClampNeg
      · rw [if_pos z62] at h; cases h
      rw [if_neg z62] at h
      refine ldIm (k := 3) C hW (by decide) z62 dX12_turn_62 ?_
      cases h
      exact w_iret C hW hS dX12_turn_63
    · rw [if_pos c38] at h
      refine lv_aload_n hx0 hb dX12_turn_41 rfl (lv_at hl 1 rfl) ?_
      refine lv_iconst (v := (2 : Int32)) hx0 hb dX12_turn_42 (by decide) ?_
      obtain ⟨v43, h43, h⟩ := bnd h
      try dsimp only at h
      refine w_callV (L := (LM E b)) (k := 0) (As := [.int (2 : Int32)]) (rest := []) C hW hS (show 0 < 18 by decide) cm0 kcX12 (mX12_fails (2 : Int32)  (up σ 0 0 (0 : Int32)) v43 h43) cwX12_fails cvX12_fails rfl mlX12_94 ⟨by decide, by decide⟩ rfl hl.1 (Nat.le_of_ble_eq_true rfl) ⟨by decide, by decide⟩ dX12_turn_43 rfl (fun H locs hW hS => ?_)
      cases h
      exact w_iret C hW hS dX12_turn_46
  · rw [if_pos c6] at h
    refine lv_aload_n hx0 hb dX12_turn_9 rfl (lv_at hl 0 rfl) ?_
    refine lv_iconst (v := (1 : Int32)) hx0 hb dX12_turn_10 (by decide) ?_
    obtain ⟨v11, h11, h⟩ := bnd h
    try dsimp only at h
    refine w_callV (L := (LM E b)) (k := 0) (As := [.int (1 : Int32)]) (rest := []) C hW hS (show 0 < 18 by decide) cm0 kcX12 (mX12_fails (1 : Int32)  (up σ 0 0 (0 : Int32)) v11 h11) cwX12_fails cvX12_fails rfl mlX12_94 ⟨by decide, by decide⟩ rfl hl.1 (Nat.le_of_ble_eq_true rfl) ⟨by decide, by decide⟩ dX12_turn_11 rfl (fun H locs hW hS => ?_)
    cases h
    exact w_iret C hW hS dX12_turn_14
def fX12_openingOf_l5 (x1 : Int32) : Nat → Int32 → Int32 → Mem → Option (Int32 × Int32)
  | 0, _, _, _ => none
  | n + 1, x3, x4, σ => if x1 ≤ x4 then (some (x3, x4)) else ((fX12_isPresent x4 σ).bind fun v15 => if v15 = 0 then (fX12_openingOf_l5 x1 n (x3 + (0 : Int32)) (x4 + (1 : Int32)) σ) else (fX12_openingOf_l5 x1 n (x3 + (1 : Int32)) (x4 + (1 : Int32)) σ))
set_option maxRecDepth 100000 in
set_option maxHeartbeats 4000000 in
theorem bX12_openingOf_l5 {p : Program} {l : Launch} {e : Env} {s : State} {m : MethodId} {args : Array Value} {below : List Frame} {meth : Method} {c : Code} {E : Ev} {b : Nat} (C : Cx p l s m args meth c E cX12_openingOf 5 RX12 (some .int)) (x1 : Int32) (σ : Mem) {Qf : State → Prop} {q : Int32 × Int32} (hx : ∀ H locs ls, Wd E (LM E b) σ H → va_S (La (LM E b)) s.heap H locs → lv_has ls 5 [(0, .ref (b + 0)), (1, .int x1), (3, .int q.1), (4, .int q.2)] → W p l e { frames := 1, cells := 0, slots := 0, locals := 21 } s m args below meth c H locs 0 0 Qf (F0 m 34 ls [])) : ∀ (n : Nat) (x3 : Int32) (x4 : Int32), fX12_openingOf_l5 x1 n x3 x4 σ = some q → ∀ (H : Heap) (locs : List Loc) (ls : Array Slot), Wd E (LM E b) σ H → va_S (La (LM E b)) s.heap H locs → lv_has ls 5 [(0, .ref (b + 0)), (1, .int x1), (3, .int x3), (4, .int x4)] → W p l e { frames := 1, cells := 0, slots := 0, locals := 21 } s m args below meth c H locs 0 0 Qf (F0 m 5 ls []) := by
  have hx0 := C.1
  have hb := C.2.1
  intro n
  induction n with
  | zero => intro x3 x4 h; simp [fX12_openingOf_l5] at h
  | succ n ih =>
    intro x3 x4 h H locs ls hW hS hl
    unfold fX12_openingOf_l5 at h
    refine lv_iload hx0 hb dX12_openingOf_5 (lv_at hl 3 rfl) ?_
    refine lv_iload_n hx0 hb dX12_openingOf_7 rfl (lv_at hl 1 rfl) ?_
    refine lv_icmp_ge (tgt := 34) hx0 hb dX12_openingOf_8 (by decide) (fun c8 => ?_) (fun c8 => ?_)
    · rw [if_pos c8] at h
      cases h
      exact hx _ _ _ hW hS (lv_sub hl [0, 1, 2, 3] rfl)
    · rw [if_neg c8] at h
      refine lv_iload_n hx0 hb dX12_openingOf_11 rfl (lv_at hl 2 rfl) ?_
      refine lv_aload_n hx0 hb dX12_openingOf_12 rfl (lv_at hl 0 rfl) ?_
      refine lv_iload hx0 hb dX12_openingOf_13 (lv_at hl 3 rfl) ?_
      obtain ⟨v15, h15, h⟩ := bnd h
      try dsimp only at h
      refine w_callV (L := (LM E b)) (k := 0) (As := [.int x4]) (rest := [.int x3]) C hW hS (show 0 < 18 by decide) cm0 kcX12 (mX12_isPresent x4  σ v15 h15) cwX12_isPresent cvX12_isPresent rfl mlX12_215 ⟨by decide, by decide⟩ rfl hl.1 (Nat.le_of_ble_eq_true rfl) ⟨by decide, by decide⟩ dX12_openingOf_15 rfl (fun H locs hW hS => ?_)
      refine lv_if_eq (tgt := 25) hx0 hb dX12_openingOf_18 (by decide) (fun c18 => ?_) (fun c18 => ?_)
      · rw [if_pos c18] at h
        refine lv_iconst (v := (0 : Int32)) hx0 hb dX12_openingOf_25 (by decide) ?_
        refine lv_iadd hx0 hb dX12_openingOf_26 ?_
        refine lv_istore_n (lv' := [(3, .int (x3 + (0 : Int32))), (0, .ref (b + 0)), (1, .int x1), (4, .int x4)]) hx0 hb dX12_openingOf_27 rfl hl (by decide) rfl (fun ls hl => ?_)
        refine lv_iinc (v := x4 + (1 : Int32)) (lv' := [(4, .int (x4 + (1 : Int32))), (3, .int (x3 + (0 : Int32))), (0, .ref (b + 0)), (1, .int x1)]) hx0 hb dX12_openingOf_28 hl (k := 3) rfl rfl (by decide) rfl (fun ls hl => ?_)
        refine lv_goto (tgt := 5) hx0 hb dX12_openingOf_31 (by decide) ?_
        exact ih (x3 + (0 : Int32)) (x4 + (1 : Int32)) h _ _ _ hW hS (lv_sub hl [2, 3, 1, 0] rfl)
      · rw [if_neg c18] at h
        refine lv_iconst (v := (1 : Int32)) hx0 hb dX12_openingOf_21 (by decide) ?_
        refine lv_goto (tgt := 26) hx0 hb dX12_openingOf_22 (by decide) ?_
        refine lv_iadd hx0 hb dX12_openingOf_26 ?_
        refine lv_istore_n (lv' := [(3, .int (x3 + (1 : Int32))), (0, .ref (b + 0)), (1, .int x1), (4, .int x4)]) hx0 hb dX12_openingOf_27 rfl hl (by decide) rfl (fun ls hl => ?_)
        refine lv_iinc (v := x4 + (1 : Int32)) (lv' := [(4, .int (x4 + (1 : Int32))), (3, .int (x3 + (1 : Int32))), (0, .ref (b + 0)), (1, .int x1)]) hx0 hb dX12_openingOf_28 hl (k := 3) rfl rfl (by decide) rfl (fun ls hl => ?_)
        refine lv_goto (tgt := 5) hx0 hb dX12_openingOf_31 (by decide) ?_
        exact ih (x3 + (1 : Int32)) (x4 + (1 : Int32)) h _ _ _ hW hS (lv_sub hl [2, 3, 1, 0] rfl)
def fX12_openingOf (x1 : Int32) (x2 : Int32) (σ : Mem) : Option Int32 :=
  (fX12_openingOf_l5 x1 FU x2 (0 : Int32) σ).bind fun q5 => some q5.1
set_option maxRecDepth 100000 in
set_option maxHeartbeats 4000000 in
theorem mX12_openingOf {l : Launch} {E : Ev} {b : Nat} (x1 : Int32) (x2 : Int32) (σ : Mem) (r : Int32) (h : fX12_openingOf x1 x2 σ = some r) : Met l yX12_openingOf (tw yX12_openingOf cX12_openingOf 5 (some .int)) { frames := 1, cells := 0, slots := 0, locals := 21 } (va_Pc [.ref (b + 0), .int x1, .int x2] (Pr l E (LM E b) σ)) (Qz E (LM E b) (some (.int r)) σ) 0 0 (La (LM E b)) := by
  refine ct_of (by decide) (Nat.le_of_ble_eq_true rfl) ?_
  intro p e s m below meth c C hW hS ls hl
  have hx0 := C.1
  have hb := C.2.1
  have hl : lv_has ls 5 [(0, .ref (b + 0)), (1, .int x1), (2, .int x2)] := hl
  unfold fX12_openingOf at h
  refine lv_iload_n hx0 hb dX12_openingOf_0 rfl (lv_at hl 2 rfl) ?_
  refine lv_istore_n (lv' := [(3, .int x2), (0, .ref (b + 0)), (1, .int x1), (2, .int x2)]) hx0 hb dX12_openingOf_1 rfl hl (by decide) rfl (fun ls hl => ?_)
  refine lv_iconst (v := (0 : Int32)) hx0 hb dX12_openingOf_2 (by decide) ?_
  refine lv_istore (lv' := [(4, .int (0 : Int32)), (3, .int x2), (0, .ref (b + 0)), (1, .int x1), (2, .int x2)]) hx0 hb dX12_openingOf_3 hl (by decide) rfl (fun ls hl => ?_)
  obtain ⟨q5, h5, h⟩ := bnd h
  try dsimp only at h
  refine bX12_openingOf_l5 C x1  σ (q := q5) ?_ FU x2 (0 : Int32) h5 _ _ _ hW hS (lv_sub hl [2, 3, 1, 0] rfl)
  intro H locs ls hW hS hl
  refine lv_iload_n hx0 hb dX12_openingOf_34 rfl (lv_at hl 2 rfl) ?_
  cases h
  exact w_iret C hW hS dX12_openingOf_35
def fX12_goTo (x1 : Int32) (σ : Mem) : Option (Int32 × Mem) :=
  (fX12_isPlace x1 (up σ 0 0 (0 : Int32))).bind fun v7 => if v7.1 = 0 then ((fX12_fails (1 : Int32) v7.2).bind fun v15 => some (v15.1, v15.2)) else ((fX12_remembers v7.2).bind fun v20 => if ((4 : Int32) * x1) < 0 ∨ lm 8 ≤ ((4 : Int32) * x1).toNatClampNeg then none else if (((4 : Int32) * x1) + (1 : Int32)) < 0 ∨ lm 8 ≤ (((4 : Int32) * x1) + (1 : Int32)).toNatClampNeg then none else (fX12_openingOf (v20 8 ((4 : Int32) * x1).toNatClampNeg) (v20 8 (((4 : Int32) * x1) + (1 : Int32)).toNatClampNeg) v20).bind fun v43 => (fX12_viewGoes v43 v20).bind fun v46 => if (3 : Int32) < 0 ∨ lm 3 ≤ (3 : Int32).toNatClampNeg then none else some (v46 3 (3 : Int32).toNatClampNeg, v46))
set_option maxRecDepth 100000 in
set_option maxHeartbeats 4000000 in
theorem mX12_goTo {l : Launch} {E : Ev} {b : Nat} (x1 : Int32) (σ : Mem) (r : (Int32 × Mem)) (h : fX12_goTo x1 σ = some r) : Met l yX12_goTo (tw yX12_goTo cX12_goTo 2 (some .int)) { frames := 4, cells := 0, slots := 0, locals := 89 } (va_Pc [.ref (b + 0), .int x1] (Pr l E (LM E b) σ)) (Qz E (LM E b) (some (.int r.1)) r.2) 0 0 (La (LM E b)) := by
  refine ct_of (by decide) (Nat.le_of_ble_eq_true rfl) ?_
  intro p e s m below meth c C hW hS ls hl
  have hx0 := C.1
  have hb := C.2.1
  have hl : lv_has ls 2 [(0, .ref (b + 0)), (1, .int x1)] := hl
  unfold fX12_goTo at h
  refine lv_aload_n hx0 hb dX12_goTo_0 rfl (lv_at hl 0 rfl) ?_
  refine lv_iconst (v := (0 : Int32)) hx0 hb dX12_goTo_1 (by decide) ?_
  refine ptX12_0 C hW hS flX12_3 dX12_goTo_2 (fun H locs hW hS => ?_)
  refine lv_aload_n hx0 hb dX12_goTo_5 rfl (lv_at hl 0 rfl) ?_
  refine lv_iload_n hx0 hb dX12_goTo_6 rfl (lv_at hl 1 rfl) ?_
  obtain ⟨v7, h7, h⟩ := bnd h
  try dsimp only at h
  refine w_callV (L := (LM E b)) (k := 0) (As := [.int x1]) (rest := []) C hW hS (show 0 < 18 by decide) cm0 kcX12 (mX12_isPlace x1  (up σ 0 0 (0 : Int32)) v7 h7) cwX12_isPlace cvX12_isPlace rfl mlX12_360 ⟨by decide, by decide⟩ rfl hl.1 (Nat.le_of_ble_eq_true rfl) ⟨by decide, by decide⟩ dX12_goTo_7 rfl (fun H locs hW hS => ?_)
  refine lv_if_ne (tgt := 19) hx0 hb dX12_goTo_10 (by decide) (fun c10 => ?_) (fun c10 => ?_)
  · rw [if_neg c10] at h
    refine lv_aload_n hx0 hb dX12_goTo_19 rfl (lv_at hl 0 rfl) ?_
    obtain ⟨v20, h20, h⟩ := bnd h
    try dsimp only at h
    refine w_callV (L := (LM E b)) (k := 0) (As := []) (rest := []) C hW hS (show 0 < 18 by decide) cm0 kcX12 (mX12_remembers   v7.2 v20 h20) cwX12_remembers cvX12_remembers rfl mlX12_285 ⟨by decide, by decide⟩ rfl hl.1 (Nat.le_of_ble_eq_true rfl) ⟨by decide, by decide⟩ dX12_goTo_20 rfl (fun H locs hW hS => ?_)
    refine lv_aload_n hx0 hb dX12_goTo_23 rfl (lv_at hl 0 rfl) ?_
    refine lv_aload_n hx0 hb dX12_goTo_24 rfl (lv_at hl 0 rfl) ?_
    refine lv_aload_n hx0 hb dX12_goTo_25 rfl (lv_at hl 0 rfl) ?_
    refine gtX12_16 C hW flX12_36 dX12_goTo_26 ?_
    refine lv_iconst (v := (4 : Int32)) hx0 hb dX12_goTo_29 (by decide) ?_
    refine lv_iload_n hx0 hb dX12_goTo_30 rfl (lv_at hl 1 rfl) ?_
    refine lv_imul hx0 hb dX12_goTo_31 ?_
    by_cases z32 : ((4 : Int32) * x1) < 0 ∨ lm 8 ≤ ((4 : Int32) * x1).toNatClampNeg
    · rw [if_pos z32] at h; cases h
    rw [if_neg z32] at h
    refine ldIm (k := 8) C hW (by decide) z32 dX12_goTo_32 ?_
    refine lv_aload_n hx0 hb dX12_goTo_33 rfl (lv_at hl 0 rfl) ?_
    refine gtX12_16 C hW flX12_36 dX12_goTo_34 ?_
    refine lv_iconst (v := (4 : Int32)) hx0 hb dX12_goTo_37 (by decide) ?_
    refine lv_iload_n hx0 hb dX12_goTo_38 rfl (lv_at hl 1 rfl) ?_
    refine lv_imul hx0 hb dX12_goTo_39 ?_
    refine lv_iconst (v := (1 : Int32)) hx0 hb dX12_goTo_40 (by decide) ?_
    refine lv_iadd hx0 hb dX12_goTo_41 ?_
    by_cases z42 : (((4 : Int32) * x1) + (1 : Int32)) < 0 ∨ lm 8 ≤ (((4 : Int32) * x1) + (1 : Int32)).toNatClampNeg
    · rw [if_pos z42] at h; cases h
    rw [if_neg z42] at h
    refine ldIm (k := 8) C hW (by decide) z42 dX12_goTo_42 ?_
    obtain ⟨v43, h43, h⟩ := bnd h
    try dsimp only at h
    refine w_callV (L := (LM E b)) (k := 0) (As := [.int (v20 8 ((4 : Int32) * x1).toNatClampNeg), .int (v20 8 (((4 : Int32) * x1) + (1 : Int32)).toNatClampNeg)]) (rest := [.ref (b + 0)]) C hW hS (show 0 < 18 by decide) cm0 kcX12 (mX12_openingOf (v20 8 ((4 : Int32) * x1).toNatClampNeg) (v20 8 (((4 : Int32) * x1) + (1 : Int32)).toNatClampNeg)  v20 v43 h43) cwX12_openingOf cvX12_openingOf rfl mlX12_363 ⟨by decide, by decide⟩ rfl hl.1 (Nat.le_of_ble_eq_true rfl) ⟨by decide, by decide⟩ dX12_goTo_43 rfl (fun H locs hW hS => ?_)
    obtain ⟨v46, h46, h⟩ := bnd h
    try dsimp only at h
    refine w_callV (L := (LM E b)) (k := 0) (As := [.int v43]) (rest := []) C hW hS (show 0 < 18 by decide) cm0 kcX12 (mX12_viewGoes v43  v20 v46 h46) cwX12_viewGoes cvX12_viewGoes rfl mlX12_357 ⟨by decide, by decide⟩ rfl hl.1 (Nat.le_of_ble_eq_true rfl) ⟨by decide, by decide⟩ dX12_goTo_46 rfl (fun H locs hW hS => ?_)
    refine lv_aload_n hx0 hb dX12_goTo_49 rfl (lv_at hl 0 rfl) ?_
    refine gtX12_5 C hW flX12_20 dX12_goTo_50 ?_
    refine lv_iconst (v := (3 : Int32)) hx0 hb dX12_goTo_53 (by decide) ?_
    by_cases z54 : (3 : Int32) < 0 ∨ lm 3 ≤ (3 : Int32).toNatClampNeg
    · rw [if_pos z54] at h; cases h
    rw [if_neg z54] at h
    refine ldIm (k := 3) C hW (by decide) z54 dX12_goTo_54 ?_
    cases h
    exact w_iret C hW hS dX12_goTo_55
  · rw [if_pos c10] at h
    refine lv_aload_n hx0 hb dX12_goTo_13 rfl (lv_at hl 0 rfl) ?_
    refine lv_iconst (v := (1 : Int32)) hx0 hb dX12_goTo_14 (by decide) ?_
    obtain ⟨v15, h15, h⟩ := bnd h
    try dsimp only at h
    refine w_callV (L := (LM E b)) (k := 0) (As := [.int (1 : Int32)]) (rest := []) C hW hS (show 0 < 18 by decide) cm0 kcX12 (mX12_fails (1 : Int32)  v7.2 v15 h15) cwX12_fails cvX12_fails rfl mlX12_94 ⟨by decide, by decide⟩ rfl hl.1 (Nat.le_of_ble_eq_true rfl) ⟨by decide, by decide⟩ dX12_goTo_15 rfl (fun H locs hW hS => ?_)
    cases h
    exact w_iret C hW hS dX12_goTo_18
