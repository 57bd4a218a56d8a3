/-! the reference, by program out of the bytecode -/
def fX12_goBack (σ : Mem) : Option (Int32 × Mem) :=
  if (4 : Int32) < 0 ∨ lm 3 ≤ (4 : Int32).toNatClampNeg then none else if ((up σ 0 0 (0 : Int32)) 3 (4 : Int32).toNatClampNeg) = 0 then ((fX12_fails (1 : Int32) (up σ 0 0 (0 : Int32))).bind fun v16 => some (v16.1, v16.2)) else ((fX12_remembers (up σ 0 0 (0 : Int32))).bind fun v21 => if (4 : Int32) < 0 ∨ lm 3 ≤ (4 : Int32).toNatClampNeg then none else if (4 : Int32) < 0 ∨ lm 3 ≤ (4 : Int32).toNatClampNeg then none else if (4 : Int32) < 0 ∨ lm 3 ≤ (4 : Int32).toNatClampNeg then none else if ((269 : Int32) + ((up v21 3 (4 : Int32).toNatClampNeg ((v21 3 (4 : Int32).toNatClampNeg) - (1 : Int32))) 3 (4 : Int32).toNatClampNeg)) < 0 ∨ lm 3 ≤ ((269 : Int32) + ((up v21 3 (4 : Int32).toNatClampNeg ((v21 3 (4 : Int32).toNatClampNeg) - (1 : Int32))) 3 (4 : Int32).toNatClampNeg)).toNatClampNeg then none else if (3 : Int32) < 0 ∨ lm 3 ≤ (3 : Int32).toNatClampNeg then none else if (3 : Int32) < 0 ∨ lm 3 ≤ (3 : Int32).toNatClampNeg then none else some ((up (up v21 3 (4 : Int32).toNatClampNeg ((v21 3 (4 : Int32).toNatClampNeg) - (1 : Int32))) 3 (3 : Int32).toNatClampNeg ((up v21 3 (4 : Int32).toNatClampNeg ((v21 3 (4 : Int32).toNatClampNeg) - (1 : Int32))) 3 ((269 : Int32) + ((up v21 3 (4 : Int32).toNatClampNeg ((v21 3 (4 : Int32).toNatClampNeg) - (1 : Int32))) 3 (4 : Int32).toNatClampNeg)).toNatClampNeg)) 3 (3 : Int32).toNatClampNeg, up (up v21 3 (4 : Int32).toNatClampNeg ((v21 3 (4 : Int32).toNatClampNeg) - (1 : Int32))) 3 (3 : Int32).toNatClampNeg ((up v21 3 (4 : Int32).toNatClampNeg ((v21 3 (4 : Int32).toNatClampNeg) - (1 : Int32))) 3 ((269 : Int32) + ((up v21 3 (4 : Int32).toNatClampNeg ((v21 3 (4 : Int32).toNatClampNeg) - (1 : Int32))) 3 (4 : Int32).toNatClampNeg)).toNatClampNeg)))
set_option maxRecDepth 100000 in
set_option maxHeartbeats 4000000 in
theorem mX12_goBack {l : Launch} {E : Ev} {b : Nat} (σ : Mem) (r : (Int32 × Mem)) (h : fX12_goBack σ = some r) : Met l yX12_goBack (tw yX12_goBack cX12_goBack 1 (some .int)) { frames := 2, cells := 0, slots := 0, locals := 45 } (va_Pc [.ref (b + 0)] (Pr l E (LM E b) σ)) (Qz E (LM E b) (some (.int r.1)) r.2) 0 0 (La (LM E b)) := by
  refine ct_of (by decide) (Nat.le_of_ble_eq_true rfl) ?_
  intro p e s m below meth c C hW hS ls hl
  have hx0 := C.1
  have hb := C.2.1
  have hl : lv_has ls 1 [(0, .ref (b + 0))] := hl
  unfold fX12_goBack at h
  refine lv_aload_n hx0 hb dX12_goBack_0 rfl (lv_at hl 0 rfl) ?_
  refine lv_iconst (v := (0 : Int32)) hx0 hb dX12_goBack_1 (by decide) ?_
  refine ptX12_0 C hW hS flX12_3 dX12_goBack_2 (fun H locs hW hS => ?_)
  refine lv_aload_n hx0 hb dX12_goBack_5 rfl (lv_at hl 0 rfl) ?_
  refine gtX12_5 C hW flX12_20 dX12_goBack_6 ?_
  refine lv_iconst (v := (4 : Int32)) hx0 hb dX12_goBack_9 (by decide) ?_
  by_cases z10 : (4 : Int32) < 0 ∨ lm 3 ≤ (4 : Int32).toNatClampNeg
  · rw [if_pos z10] at h; cases h
  rw [if_neg z10] at h
  refine ldIm (k := 3) C hW (by decide) z10 dX12_goBack_10 ?_
  refine lv_if_ne (tgt := 20) hx0 hb dX12_goBack_11 (by decide) (fun c11 => ?_) (fun c11 => ?_)
  · rw [if_neg c11] at h
    refine lv_aload_n hx0 hb dX12_goBack_20 rfl (lv_at hl 0 rfl) ?_
    obtain ⟨v21, h21, h⟩ := bnd h
    try dsimp only at h
    refine w_callV (L := (LM E b)) (k := 0) (As := []) (rest := []) C hW hS (show 0 < 18 by decide) cm0 kcX12 (mX12_remembers   (up σ 0 0 (0 : Int32)) v21 h21) cwX12_remembers cvX12_remembers rfl mlX12_285 ⟨by decide, by decide⟩ rfl hl.1 (Nat.le_of_ble_eq_true rfl) ⟨by decide, by decide⟩ dX12_goBack_21 rfl (fun H locs hW hS => ?_)
    refine lv_aload_n hx0 hb dX12_goBack_24 rfl (lv_at hl 0 rfl) ?_
    refine gtX12_5 C hW flX12_20 dX12_goBack_25 ?_
    refine lv_iconst (v := (4 : Int32)) hx0 hb dX12_goBack_28 (by decide) ?_
    refine lv_dup2_11 hx0 hb dX12_goBack_29 rfl rfl ?_
    by_cases z30 : (4 : Int32) < 0 ∨ lm 3 ≤ (4 : Int32).toNatClampNeg
    · rw [if_pos z30] at h; cases h
    rw [if_neg z30] at h
    refine ldIm (k := 3) C hW (by decide) z30 dX12_goBack_30 ?_
    refine lv_iconst (v := (1 : Int32)) hx0 hb dX12_goBack_31 (by decide) ?_
    refine lv_isub hx0 hb dX12_goBack_32 ?_
    by_cases z33 : (4 : Int32) < 0 ∨ lm 3 ≤ (4 : Int32).toNatClampNeg
    · rw [if_pos z33] at h; cases h
    rw [if_neg z33] at h
    refine saIm (k := 3) C hW hS (by decide) z33 dX12_goBack_33 (fun H locs hW hS => ?_)
    refine lv_aload_n hx0 hb dX12_goBack_34 rfl (lv_at hl 0 rfl) ?_
    refine gtX12_5 C hW flX12_20 dX12_goBack_35 ?_
    refine lv_iconst (v := (3 : Int32)) hx0 hb dX12_goBack_38 (by decide) ?_
    refine lv_aload_n hx0 hb dX12_goBack_39 rfl (lv_at hl 0 rfl) ?_
    refine gtX12_5 C hW flX12_20 dX12_goBack_40 ?_
    refine lv_sipush (v := (269 : Int32)) hx0 hb dX12_goBack_43 (by decide) ?_
    refine lv_aload_n hx0 hb dX12_goBack_46 rfl (lv_at hl 0 rfl) ?_
    refine gtX12_5 C hW flX12_20 dX12_goBack_47 ?_
    refine lv_iconst (v := (4 : Int32)) hx0 hb dX12_goBack_50 (by decide) ?_
    by_cases z51 : (4 : Int32) < 0 ∨ lm 3 ≤ (4 : Int32).toNatClampNeg
    · rw [if_pos z51] at h; cases h
    rw [if_neg z51] at h
    refine ldIm (k := 3) C hW (by decide) z51 dX12_goBack_51 ?_
    refine lv_iadd hx0 hb dX12_goBack_52 ?_
    by_cases z53 : ((269 : Int32) + ((up v21 3 (4 : Int32).toNatClampNeg ((v21 3 (4 : Int32).toNatClampNeg) - (1 : Int32))) 3 (4 : Int32).toNatClampNeg)) < 0 ∨ lm 3 ≤ ((269 : Int32) + ((up v21 3 (4 : Int32).toNatClampNeg ((v21 3 (4 : Int32).toNatClampNeg) - (1 : Int32))) 3 (4 : Int32).toNatClampNeg)).toNatClampNeg
    · rw [if_pos z53] at h; cases h
    rw [if_neg z53] at h
    refine ldIm (k := 3) C hW (by decide) z53 dX12_goBack_53 ?_
    by_cases z54 : (3 : Int32) < 0 ∨ lm 3 ≤ (3 : Int32).toNatClampNeg
    · rw [if_pos z54] at h; cases h
    rw [if_neg z54] at h
    refine saIm (k := 3) C hW hS (by decide) z54 dX12_goBack_54 (fun H locs hW hS => ?_)
    refine lv_aload_n hx0 hb dX12_goBack_55 rfl (lv_at hl 0 rfl) ?_
    refine gtX12_5 C hW flX12_20 dX12_goBack_56 ?_
    refine lv_iconst (v := (3 : Int32)) hx0 hb dX12_goBack_59 (by decide) ?_
    by_cases z60 : (3 : Int32) < 0 ∨ lm 3 ≤ (3 : Int32).toNatClampNeg
    · rw [if_pos z60] at h; cases h
    rw [if_neg z60] at h
    refine ldIm (k := 3) C hW (by decide) z60 dX12_goBack_60 ?_
    cases h
    exact w_iret C hW hS dX12_goBack_61
  · rw [if_pos c11] at h
    refine lv_aload_n hx0 hb dX12_goBack_14 rfl (lv_at hl 0 rfl) ?_
    refine lv_iconst (v := (1 : Int32)) hx0 hb dX12_goBack_15 (by decide) ?_
    obtain ⟨v16, h16, h⟩ := bnd h
    try dsimp only at h
    refine w_callV (L := (LM E b)) (k := 0) (As := [.int (1 : Int32)]) (rest := []) C hW hS (show 0 < 18 by decide) cm0 kcX12 (mX12_fails (1 : Int32)  (up σ 0 0 (0 : Int32)) v16 h16) cwX12_fails cvX12_fails rfl mlX12_94 ⟨by decide, by decide⟩ rfl hl.1 (Nat.le_of_ble_eq_true rfl) ⟨by decide, by decide⟩ dX12_goBack_16 rfl (fun H locs hW hS => ?_)
    cases h
    exact w_iret C hW hS dX12_goBack_19
def fX12_volume (x1 : Int32) (σ : Mem) : Option (Int32 × Mem) :=
  if x1 = (0 : Int32) then (some ((up σ 0 0 (0 : Int32)) 0 3, up σ 0 0 (0 : Int32))) else (if x1 = (1 : Int32) then ((fX12_leaves (up σ 0 0 (0 : Int32))).bind fun v50 => some (v50, up σ 0 0 (0 : Int32))) else (if x1 = (2 : Int32) then ((fX12_present (up σ 0 0 (0 : Int32))).bind fun v55 => some (v55, up σ 0 0 (0 : Int32))) else (if x1 = (3 : Int32) then (if (0 : Int32) < 0 ∨ lm 3 ≤ (0 : Int32).toNatClampNeg then none else some ((up σ 0 0 (0 : Int32)) 3 (0 : Int32).toNatClampNeg, up σ 0 0 (0 : Int32))) else (if x1 = (4 : Int32) then ((fX12_attached (up σ 0 0 (0 : Int32))).bind fun v67 => some (v67, up σ 0 0 (0 : Int32))) else (if x1 = (5 : Int32) then (if (1 : Int32) < 0 ∨ lm 3 ≤ (1 : Int32).toNatClampNeg then none else some ((up σ 0 0 (0 : Int32)) 3 (1 : Int32).toNatClampNeg, up σ 0 0 (0 : Int32))) else ((fX12_fails (1 : Int32) (up σ 0 0 (0 : Int32))).bind fun v80 => some (v80.1, v80.2)))))))
set_option maxRecDepth 100000 in
set_option maxHeartbeats 4000000 in
theorem mX12_volume {l : Launch} {E : Ev} {b : Nat} (x1 : Int32) (σ : Mem) (r : (Int32 × Mem)) (h : fX12_volume x1 σ = some r) : Met l yX12_volume (tw yX12_volume cX12_volume 2 (some .int)) { frames := 3, cells := 0, slots := 0, locals := 65 } (va_Pc [.ref (b + 0), .int x1] (Pr l E (LM E b) σ)) (Qz E (LM E b) (some (.int r.1)) r.2) 0 0 (La (LM E b)) := by
  refine ct_of (by decide) (Nat.le_of_ble_eq_true rfl) ?_
  intro p e s m below meth c C hW hS ls hl
  have hx0 := C.1
  have hb := C.2.1
  have hl : lv_has ls 2 [(0, .ref (b + 0)), (1, .int x1)] := hl
  unfold fX12_volume at h
  refine lv_aload_n hx0 hb dX12_volume_0 rfl (lv_at hl 0 rfl) ?_
  refine lv_iconst (v := (0 : Int32)) hx0 hb dX12_volume_1 (by decide) ?_
  refine ptX12_0 C hW hS flX12_3 dX12_volume_2 (fun H locs hW hS => ?_)
  refine lv_iload_n hx0 hb dX12_volume_5 rfl (lv_at hl 1 rfl) ?_
  by_cases q6_0 : x1 = (0 : Int32)
  · rw [if_pos q6_0] at h
    refine lv_tableIn (tgt := 44) hx0 hb dX12_volume_6 (by rw [q6_0]; decide) (by rw [q6_0]; decide) (by rw [q6_0]; rfl) (by decide) ?_
    refine lv_aload_n hx0 hb dX12_volume_44 rfl (lv_at hl 0 rfl) ?_
    refine gtX12_3 C hW flX12_73 dX12_volume_45 ?_
    cases h
    exact w_iret C hW hS dX12_volume_48
  rw [if_neg q6_0] at h
  by_cases q6_1 : x1 = (1 : Int32)
  · rw [if_pos q6_1] at h
    refine lv_tableIn (tgt := 49) hx0 hb dX12_volume_6 (by rw [q6_1]; decide) (by rw [q6_1]; decide) (by rw [q6_1]; rfl) (by decide) ?_
    refine lv_aload_n hx0 hb dX12_volume_49 rfl (lv_at hl 0 rfl) ?_
    obtain ⟨v50, h50, h⟩ := bnd h
    try dsimp only at h
    refine w_callV (L := (LM E b)) (k := 0) (As := []) (rest := []) C hW hS (show 0 < 18 by decide) cm0 kcX12 (mX12_leaves   (up σ 0 0 (0 : Int32)) v50 h50) cwX12_leaves cvX12_leaves rfl mlX12_212 ⟨by decide, by decide⟩ rfl hl.1 (Nat.le_of_ble_eq_true rfl) ⟨by decide, by decide⟩ dX12_volume_50 rfl (fun H locs hW hS => ?_)
    cases h
    exact w_iret C hW hS dX12_volume_53
  rw [if_neg q6_1] at h
  by_cases q6_2 : x1 = (2 : Int32)
  · rw [if_pos q6_2] at h
    refine lv_tableIn (tgt := 54) hx0 hb dX12_volume_6 (by rw [q6_2]; decide) (by rw [q6_2]; decide) (by rw [q6_2]; rfl) (by decide) ?_
    refine lv_aload_n hx0 hb dX12_volume_54 rfl (lv_at hl 0 rfl) ?_
    obtain ⟨v55, h55, h⟩ := bnd h
    try dsimp only at h
    refine w_callV (L := (LM E b)) (k := 0) (As := []) (rest := []) C hW hS (show 0 < 18 by decide) cm0 kcX12 (mX12_present   (up σ 0 0 (0 : Int32)) v55 h55) cwX12_present cvX12_present rfl mlX12_306 ⟨by decide, by decide⟩ rfl hl.1 (Nat.le_of_ble_eq_true rfl) ⟨by decide, by decide⟩ dX12_volume_55 rfl (fun H locs hW hS => ?_)
    cases h
    exact w_iret C hW hS dX12_volume_58
  rw [if_neg q6_2] at h
  by_cases q6_3 : x1 = (3 : Int32)
  · rw [if_pos q6_3] at h
    refine lv_tableIn (tgt := 59) hx0 hb dX12_volume_6 (by rw [q6_3]; decide) (by rw [q6_3]; decide) (by rw [q6_3]; rfl) (by decide) ?_
    refine lv_aload_n hx0 hb dX12_volume_59 rfl (lv_at hl 0 rfl) ?_
    refine gtX12_5 C hW flX12_20 dX12_volume_60 ?_
    refine lv_iconst (v := (0 : Int32)) hx0 hb dX12_volume_63 (by decide) ?_
    by_cases z64 : (0 : Int32) < 0 ∨ lm 3 ≤ (0 : Int32).toNatClampNeg
    · rw [if_pos z64] at h; cases h
    rw [if_neg z64] at h
    refine ldIm (k := 3) C hW (by decide) z64 dX12_volume_64 ?_
    cases h
    exact w_iret C hW hS dX12_volume_65
  rw [if_neg q6_3] at h
  by_cases q6_4 : x1 = (4 : Int32)
  · rw [if_pos q6_4] at h
    refine lv_tableIn (tgt := 66) hx0 hb dX12_volume_6 (by rw [q6_4]; decide) (by rw [q6_4]; decide) (by rw [q6_4]; rfl) (by decide) ?_
    refine lv_aload_n hx0 hb dX12_volume_66 rfl (lv_at hl 0 rfl) ?_
    obtain ⟨v67, h67, h⟩ := bnd h
    try dsimp only at h
    refine w_callV (L := (LM E b)) (k := 0) (As := []) (rest := []) C hW hS (show 0 < 18 by decide) cm0 kcX12 (mX12_attached   (up σ 0 0 (0 : Int32)) v67 h67) cwX12_attached cvX12_attached rfl mlX12_317 ⟨by decide, by decide⟩ rfl hl.1 (Nat.le_of_ble_eq_true rfl) ⟨by decide, by decide⟩ dX12_volume_67 rfl (fun H locs hW hS => ?_)
    cases h
    exact w_iret C hW hS dX12_volume_70
  rw [if_neg q6_4] at h
  by_cases q6_5 : x1 = (5 : Int32)
  · rw [if_pos q6_5] at h
    refine lv_tableIn (tgt := 71) hx0 hb dX12_volume_6 (by rw [q6_5]; decide) (by rw [q6_5]; decide) (by rw [q6_5]; rfl) (by decide) ?_
    refine lv_aload_n hx0 hb dX12_volume_71 rfl (lv_at hl 0 rfl) ?_
    refine gtX12_5 C hW flX12_20 dX12_volume_72 ?_
    refine lv_iconst (v := (1 : Int32)) hx0 hb dX12_volume_75 (by decide) ?_
    by_cases z76 : (1 : Int32) < 0 ∨ lm 3 ≤ (1 : Int32).toNatClampNeg
    · rw [if_pos z76] at h; cases h
    rw [if_neg z76] at h
    refine ldIm (k := 3) C hW (by decide) z76 dX12_volume_76 ?_
    cases h
    exact w_iret C hW hS dX12_volume_77
  rw [if_neg q6_5] at h
  refine lv_tableOut (tgt := 78) hx0 hb dX12_volume_6 (tab6 q6_0 q6_1 q6_2 q6_3 q6_4 q6_5) (by decide) ?_
  refine lv_aload_n hx0 hb dX12_volume_78 rfl (lv_at hl 0 rfl) ?_
  refine lv_iconst (v := (1 : Int32)) hx0 hb dX12_volume_79 (by decide) ?_
  obtain ⟨v80, h80, h⟩ := bnd h
  try dsimp only at h
  refine w_callV (L := (LM E b)) (k := 0) (As := [.int (1 : Int32)]) (rest := []) C hW hS (show 0 < 18 by decide) cm0 kcX12 (mX12_fails (1 : Int32)  (up σ 0 0 (0 : Int32)) v80 h80) cwX12_fails cvX12_fails rfl mlX12_94 ⟨by decide, by decide⟩ rfl hl.1 (Nat.le_of_ble_eq_true rfl) ⟨by decide, by decide⟩ dX12_volume_80 rfl (fun H locs hW hS => ?_)
  cases h
  exact w_iret C hW hS dX12_volume_83
def fX12_quireOf_l9 (x1 : Int32) : Nat → Int32 → Int32 → Mem → Option (Int32 × Int32)
  | 0, _, _, _ => none
  | n + 1, x2, x3, σ => if x1 < x3 then (some (x2, x3)) else (if (x2 + (1 : Int32)) < 0 ∨ lm 1 ≤ (x2 + (1 : Int32)).toNatClampNeg then none else fX12_quireOf_l9 x1 n (x2 + (1 : Int32)) (x3 + (σ 1 (x2 + (1 : Int32)).toNatClampNeg)) σ)
set_option maxRecDepth 100000 in
set_option maxHeartbeats 4000000 in
theorem bX12_quireOf_l9 {p : Program} {l : Launch} {e : Env} {s : State} {m : MethodId} {args : Array Value} {below : List Frame} {meth : Method} {c : Code} {E : Ev} {b : Nat} (C : Cx p l s m args meth c E cX12_quireOf 4 RX12 (some .int)) (x1 : Int32) (σ : Mem) {Qf : State → Prop} {q : Int32 × Int32} (hx : ∀ H locs ls, Wd E (LM E b) σ H → va_S (La (LM E b)) s.heap H locs → lv_has ls 4 [(0, .ref (b + 0)), (1, .int x1), (2, .int q.1), (3, .int q.2)] → W p l e { frames := 0, cells := 0, slots := 0, locals := 0 } s m args below meth c H locs 0 0 Qf (F0 m 29 ls [])) : ∀ (n : Nat) (x2 : Int32) (x3 : Int32), fX12_quireOf_l9 x1 n x2 x3 σ = some q → ∀ (H : Heap) (locs : List Loc) (ls : Array Slot), Wd E (LM E b) σ H → va_S (La (LM E b)) s.heap H locs → lv_has ls 4 [(0, .ref (b + 0)), (1, .int x1), (2, .int x2), (3, .int x3)] → W p l e { frames := 0, cells := 0, slots := 0, locals := 0 } s m args below meth c H locs 0 0 Qf (F0 m 9 ls []) := by
  have hx0 := C.1
  have hb := C.2.1
  intro n
  induction n with
  | zero => intro x2 x3 h; simp [fX12_quireOf_l9] at h
  | succ n ih =>
    intro x2 x3 h H locs ls hW hS hl
    unfold fX12_quireOf_l9 at h
    refine lv_iload_n hx0 hb dX12_quireOf_9 rfl (lv_at hl 1 rfl) ?_
    refine lv_iload_n hx0 hb dX12_quireOf_10 rfl (lv_at hl 3 rfl) ?_
    refine lv_icmp_lt (tgt := 29) hx0 hb dX12_quireOf_11 (by decide) (fun c11 => ?_) (fun c11 => ?_)
    · rw [if_pos c11] at h
      cases h
      exact hx _ _ _ hW hS (lv_sub hl [0, 1, 2, 3] rfl)
    · rw [if_neg c11] at h
      refine lv_iinc (v := x2 + (1 : Int32)) (lv' := [(2, .int (x2 + (1 : Int32))), (0, .ref (b + 0)), (1, .int x1), (3, .int x3)]) hx0 hb dX12_quireOf_14 hl (k := 2) rfl rfl (by decide) rfl (fun ls hl => ?_)
      refine lv_iload_n hx0 hb dX12_quireOf_17 rfl (lv_at hl 3 rfl) ?_
      refine lv_aload_n hx0 hb dX12_quireOf_18 rfl (lv_at hl 1 rfl) ?_
      refine gtX12_1 C hW flX12_13 dX12_quireOf_19 ?_
      refine lv_iload_n hx0 hb dX12_quireOf_22 rfl (lv_at hl 0 rfl) ?_
      by_cases z23 : (x2 + (1 : Int32)) < 0 ∨ lm 1 ≤ (x2 + (1 : Int32)).toNatClampNeg
      · rw [if_pos z23] at h; cases h
      rw [if_neg z23] at h
      refine ldIm (k := 1) C hW (by decide) z23 dX12_quireOf_23 ?_
      refine lv_iadd hx0 hb dX12_quireOf_24 ?_
      refine lv_istore_n (lv' := [(3, .int (x3 + (σ 1 (x2 + (1 : Int32)).toNatClampNeg))), (2, .int (x2 + (1 : Int32))), (0, .ref (b + 0)), (1, .int x1)]) hx0 hb dX12_quireOf_25 rfl hl (by decide) rfl (fun ls hl => ?_)
      refine lv_goto (tgt := 9) hx0 hb dX12_quireOf_26 (by decide) ?_
      exact ih (x2 + (1 : Int32)) (x3 + (σ 1 (x2 + (1 : Int32)).toNatClampNeg)) h _ _ _ hW hS (lv_sub hl [2, 3, 1, 0] rfl)
def fX12_quireOf (x1 : Int32) (σ : Mem) : Option Int32 :=
  if (0 : Int32) < 0 ∨ lm 1 ≤ (0 : Int32).toNatClampNeg then none else (fX12_quireOf_l9 x1 FU (0 : Int32) (σ 1 (0 : Int32).toNatClampNeg) σ).bind fun q9 => some q9.1
set_option maxRecDepth 100000 in
set_option maxHeartbeats 4000000 in
theorem mX12_quireOf {l : Launch} {E : Ev} {b : Nat} (x1 : Int32) (σ : Mem) (r : Int32) (h : fX12_quireOf x1 σ = some r) : Met l yX12_quireOf (tw yX12_quireOf cX12_quireOf 4 (some .int)) { frames := 0, cells := 0, slots := 0, locals := 0 } (va_Pc [.ref (b + 0), .int x1] (Pr l E (LM E b) σ)) (Qz E (LM E b) (some (.int r)) σ) 0 0 (La (LM E b)) := by
  refine ct_of (by decide) (Nat.le_of_ble_eq_true rfl) ?_
  intro p e s m below meth c C hW hS ls hl
  have hx0 := C.1
  have hb := C.2.1
  have hl : lv_has ls 4 [(0, .ref (b + 0)), (1, .int x1)] := hl
  unfold fX12_quireOf at h
  refine lv_iconst (v := (0 : Int32)) hx0 hb dX12_quireOf_0 (by decide) ?_
  refine lv_istore_n (lv' := [(2, .int (0 : Int32)), (0, .ref (b + 0)), (1, .int x1)]) hx0 hb dX12_quireOf_1 rfl hl (by decide) rfl (fun ls hl => ?_)
  refine lv_aload_n hx0 hb dX12_quireOf_2 rfl (lv_at hl 1 rfl) ?_
  refine gtX12_1 C hW flX12_13 dX12_quireOf_3 ?_
  refine lv_iconst (v := (0 : Int32)) hx0 hb dX12_quireOf_6 (by decide) ?_
  by_cases z7 : (0 : Int32) < 0 ∨ lm 1 ≤ (0 : Int32).toNatClampNeg
  · rw [if_pos z7] at h; cases h
  rw [if_neg z7] at h
  refine ldIm (k := 1) C hW (by decide) z7 dX12_quireOf_7 ?_
  refine lv_istore_n (lv' := [(3, .int (σ 1 (0 : Int32).toNatClampNeg)), (2, .int (0 : Int32)), (0, .ref (b + 0)), (1, .int x1)]) hx0 hb dX12_quireOf_8 rfl hl (by decide) rfl (fun ls hl => ?_)
  obtain ⟨q9, h9, h⟩ := bnd h
  try dsimp only at h
  refine bX12_quireOf_l9 C x1  σ (q := q9) ?_ FU (0 : Int32) (σ 1 (0 : Int32).toNatClampNeg) h9 _ _ _ hW hS (lv_sub hl [2, 3, 1, 0] rfl)
  intro H locs ls hW hS hl
  refine lv_iload_n hx0 hb dX12_quireOf_29 rfl (lv_at hl 2 rfl) ?_
  cases h
  exact w_iret C hW hS dX12_quireOf_30
def fX12_firstOf_l4 (x1 : Int32) : Nat → Int32 → Int32 → Mem → Option (Int32 × Int32)
  | 0, _, _, _ => none
  | n + 1, x2, x3, σ => if x1 ≤ x3 then (some (x2, x3)) else (if x3 < 0 ∨ lm 1 ≤ x3.toNatClampNeg then none else fX12_firstOf_l4 x1 n (x2 + (σ 1 x3.toNatClampNeg)) (x3 + (1 : Int32)) σ)
set_option maxRecDepth 100000 in
set_option maxHeartbeats 4000000 in
theorem bX12_firstOf_l4 {p : Program} {l : Launch} {e : Env} {s : State} {m : MethodId} {args : Array Value} {below : List Frame} {meth : Method} {c : Code} {E : Ev} {b : Nat} (C : Cx p l s m args meth c E cX12_firstOf 4 RX12 (some .int)) (x1 : Int32) (σ : Mem) {Qf : State → Prop} {q : Int32 × Int32} (hx : ∀ H locs ls, Wd E (LM E b) σ H → va_S (La (LM E b)) s.heap H locs → lv_has ls 4 [(0, .ref (b + 0)), (1, .int x1), (2, .int q.1), (3, .int q.2)] → W p l e { frames := 0, cells := 0, slots := 0, locals := 0 } s m args below meth c H locs 0 0 Qf (F0 m 24 ls [])) : ∀ (n : Nat) (x2 : Int32) (x3 : Int32), fX12_firstOf_l4 x1 n x2 x3 σ = some q → ∀ (H : Heap) (locs : List Loc) (ls : Array Slot), Wd E (LM E b) σ H → va_S (La (LM E b)) s.heap H locs → lv_has ls 4 [(0, .ref (b + 0)), (1, .int x1), (2, .int x2), (3, .int x3)] → W p l e { frames := 0, cells := 0, slots := 0, locals := 0 } s m args below meth c H locs 0 0 Qf (F0 m 4 ls []) := by
  have hx0 := C.1
  have hb := C.2.1
  intro n
  induction n with
  | zero => intro x2 x3 h; simp [fX12_firstOf_l4] at h
  | succ n ih =>
    intro x2 x3 h H locs ls hW hS hl
    unfold fX12_firstOf_l4 at h
    refine lv_iload_n hx0 hb dX12_firstOf_4 rfl (lv_at hl 3 rfl) ?_
    refine lv_iload_n hx0 hb dX12_firstOf_5 rfl (lv_at hl 1 rfl) ?_
    refine lv_icmp_ge (tgt := 24) hx0 hb dX12_firstOf_6 (by decide) (fun c6 => ?_) (fun c6 => ?_)
    · rw [if_pos c6] at h
      cases h
      exact hx _ _ _ hW hS (lv_sub hl [0, 1, 2, 3] rfl)
    · rw [if_neg c6] at h
      refine lv_iload_n hx0 hb dX12_firstOf_9 rfl (lv_at hl 2 rfl) ?_
      refine lv_aload_n hx0 hb dX12_firstOf_10 rfl (lv_at hl 0 rfl) ?_
      refine gtX12_1 C hW flX12_13 dX12_firstOf_11 ?_
      refine lv_iload_n hx0 hb dX12_firstOf_14 rfl (lv_at hl 3 rfl) ?_
      by_cases z15 : x3 < 0 ∨ lm 1 ≤ x3.toNatClampNeg
      · rw [if_pos z15] at h; cases h
      rw [if_neg z15] at h
      refine ldIm (k := 1) C hW (by decide) z15 dX12_firstOf_15 ?_
      refine lv_iadd hx0 hb dX12_firstOf_16 ?_
      refine lv_istore_n (lv' := [(2, .int (x2 + (σ 1 x3.toNatClampNeg))), (0, .ref (b + 0)), (1, .int x1), (3, .int x3)]) hx0 hb dX12_firstOf_17 rfl hl (by decide) rfl (fun ls hl => ?_)
      refine lv_iinc (v := x3 + (1 : Int32)) (lv' := [(3, .int (x3 + (1 : Int32))), (2, .int (x2 + (σ 1 x3.toNatClampNeg))), (0, .ref (b + 0)), (1, .int x1)]) hx0 hb dX12_firstOf_18 hl (k := 3) rfl rfl (by decide) rfl (fun ls hl => ?_)
      refine lv_goto (tgt := 4) hx0 hb dX12_firstOf_21 (by decide) ?_
      exact ih (x2 + (σ 1 x3.toNatClampNeg)) (x3 + (1 : Int32)) h _ _ _ hW hS (lv_sub hl [2, 3, 1, 0] rfl)
def fX12_firstOf (x1 : Int32) (σ : Mem) : Option Int32 :=
  (fX12_firstOf_l4 x1 FU (0 : Int32) (0 : Int32) σ).bind fun q4 => some q4.1
set_option maxRecDepth 100000 in
set_option maxHeartbeats 4000000 in
theorem mX12_firstOf {l : Launch} {E : Ev} {b : Nat} (x1 : Int32) (σ : Mem) (r : Int32) (h : fX12_firstOf x1 σ = some r) : Met l yX12_firstOf (tw yX12_firstOf cX12_firstOf 4 (some .int)) { frames := 0, cells := 0, slots := 0, locals := 0 } (va_Pc [.ref (b + 0), .int x1] (Pr l E (LM E b) σ)) (Qz E (LM E b) (some (.int r)) σ) 0 0 (La (LM E b)) := by
  refine ct_of (by decide) (Nat.le_of_ble_eq_true rfl) ?_
  intro p e s m below meth c C hW hS ls hl
  have hx0 := C.1
  have hb := C.2.1
  have hl : lv_has ls 4 [(0, .ref (b + 0)), (1, .int x1)] := hl
  unfold fX12_firstOf at h
  refine lv_iconst (v := (0 : Int32)) hx0 hb dX12_firstOf_0 (by decide) ?_
  refine lv_istore_n (lv' := [(2, .int (0 : Int32)), (0, .ref (b + 0)), (1, .int x1)]) hx0 hb dX12_firstOf_1 rfl hl (by decide) rfl (fun ls hl => ?_)
  refine lv_iconst (v := (0 : Int32)) hx0 hb dX12_firstOf_2 (by decide) ?_
  refine lv_istore_n (lv' := [(3, .int (0 : Int32)), (2, .int (0 : Int32)), (0, .ref (b + 0)), (1, .int x1)]) hx0 hb dX12_firstOf_3 rfl hl (by decide) rfl (fun ls hl => ?_)
  obtain ⟨q4, h4, h⟩ := bnd h
  try dsimp only at h
  refine bX12_firstOf_l4 C x1  σ (q := q4) ?_ FU (0 : Int32) (0 : Int32) h4 _ _ _ hW hS (lv_sub hl [2, 3, 1, 0] rfl)
  intro H locs ls hW hS hl
  refine lv_iload_n hx0 hb dX12_firstOf_24 rfl (lv_at hl 2 rfl) ?_
  cases h
  exact w_iret C hW hS dX12_firstOf_25
def fX12_leaf (x1 : Int32) (x2 : Int32) (σ : Mem) : Option (Int32 × Mem) :=
  (fX12_isLeaf x1 (up σ 0 0 (0 : Int32))).bind fun v7 => if v7 = 0 then ((fX12_fails (1 : Int32) (up σ 0 0 (0 : Int32))).bind fun v15 => some (v15.1, v15.2)) else ((fX12_quireOf x1 (up σ 0 0 (0 : Int32))).bind fun v21 => (fX12_firstOf v21 (up σ 0 0 (0 : Int32))).bind fun v28 => if x2 = (0 : Int32) then ((fX12_isPresent x1 (up σ 0 0 (0 : Int32))).bind fun v74 => if v74 = 0 then (some ((0 : Int32), up σ 0 0 (0 : Int32))) else (some ((1 : Int32), up σ 0 0 (0 : Int32)))) else (if x2 = (1 : Int32) then (some (v21, up σ 0 0 (0 : Int32))) else (if x2 = (2 : Int32) then (some (x1 - v28, up σ 0 0 (0 : Int32))) else (if x2 = (3 : Int32) then ((fX12_firstOf v21 (up σ 0 0 (0 : Int32))).bind fun v93 => if v21 < 0 ∨ lm 1 ≤ v21.toNatClampNeg then none else some (((v93 + ((up σ 0 0 (0 : Int32)) 1 v21.toNatClampNeg)) - (1 : Int32)) - (x1 - v28), up σ 0 0 (0 : Int32))) else (if x2 = (4 : Int32) then ((fX12_allOn x1 (0 : Int32) (up σ 0 0 (0 : Int32))).bind fun v112 => some (v112, up σ 0 0 (0 : Int32))) else (if x2 = (5 : Int32) then ((fX12_allOn x1 (1 : Int32) (up σ 0 0 (0 : Int32))).bind fun v119 => some (v119, up σ 0 0 (0 : Int32))) else ((fX12_fails (2 : Int32) (up σ 0 0 (0 : Int32))).bind fun v125 => some (v125.1, v125.2))))))))
set_option maxRecDepth 100000 in
set_option maxHeartbeats 4000000 in
theorem mX12_leaf {l : Launch} {E : Ev} {b : Nat} (x1 : Int32) (x2 : Int32) (σ : Mem) (r : (Int32 × Mem)) (h : fX12_leaf x1 x2 σ = some r) : Met l yX12_leaf (tw yX12_leaf cX12_leaf 5 (some .int)) { frames := 4, cells := 0, slots := 0, locals := 92 } (va_Pc [.ref (b + 0), .int x1, .int x2] (Pr l E (LM E b) σ)) (Qz E (LM E b) (some (.int r.1)) r.2) 0 0 (La (LM E b)) := by
  refine ct_of (by decide) (Nat.le_of_ble_eq_true rfl) ?_
  intro p e s m below meth c C hW hS ls hl
  have hx0 := C.1
  have hb := C.2.1
  have hl : lv_has ls 5 [(0, .ref (b + 0)), (1, .int x1), (2, .int x2)] := hl
  unfold fX12_leaf at h
  refine lv_aload_n hx0 hb dX12_leaf_0 rfl (lv_at hl 0 rfl) ?_
  refine lv_iconst (v := (0 : Int32)) hx0 hb dX12_leaf_1 (by decide) ?_
  refine ptX12_0 C hW hS flX12_3 dX12_leaf_2 (fun H locs hW hS => ?_)
  refine lv_aload_n hx0 hb dX12_leaf_5 rfl (lv_at hl 0 rfl) ?_
  refine lv_iload_n hx0 hb dX12_leaf_6 rfl (lv_at hl 1 rfl) ?_
  obtain ⟨v7, h7, h⟩ := bnd h
  try dsimp only at h
  refine w_callV (L := (LM E b)) (k := 0) (As := [.int x1]) (rest := []) C hW hS (show 0 < 18 by decide) cm0 kcX12 (mX12_isLeaf x1  (up σ 0 0 (0 : Int32)) v7 h7) cwX12_isLeaf cvX12_isLeaf rfl mlX12_297 ⟨by decide, by decide⟩ rfl hl.1 (Nat.le_of_ble_eq_true rfl) ⟨by decide, by decide⟩ dX12_leaf_7 rfl (fun H locs hW hS => ?_)
  refine lv_if_ne (tgt := 19) hx0 hb dX12_leaf_10 (by decide) (fun c10 => ?_) (fun c10 => ?_)
  · rw [if_neg c10] at h
    refine lv_aload_n hx0 hb dX12_leaf_19 rfl (lv_at hl 0 rfl) ?_
    refine lv_iload_n hx0 hb dX12_leaf_20 rfl (lv_at hl 1 rfl) ?_
    obtain ⟨v21, h21, h⟩ := bnd h
    try dsimp only at h
    refine w_callV (L := (LM E b)) (k := 0) (As := [.int x1]) (rest := []) C hW hS (show 0 < 18 by decide) cm0 kcX12 (mX12_quireOf x1  (up σ 0 0 (0 : Int32)) v21 h21) cwX12_quireOf cvX12_quireOf rfl mlX12_366 ⟨by decide, by decide⟩ rfl hl.1 (Nat.le_of_ble_eq_true rfl) ⟨by decide, by decide⟩ dX12_leaf_21 rfl (fun H locs hW hS => ?_)
    refine lv_istore_n (lv' := [(3, .int v21), (0, .ref (b + 0)), (1, .int x1), (2, .int x2)]) hx0 hb dX12_leaf_24 rfl hl (by decide) rfl (fun ls hl => ?_)
    refine lv_iload_n hx0 hb dX12_leaf_25 rfl (lv_at hl 2 rfl) ?_
    refine lv_aload_n hx0 hb dX12_leaf_26 rfl (lv_at hl 1 rfl) ?_
    refine lv_iload_n hx0 hb dX12_leaf_27 rfl (lv_at hl 0 rfl) ?_
    obtain ⟨v28, h28, h⟩ := bnd h
    try dsimp only at h
    refine w_callV (L := (LM E b)) (k := 0) (As := [.int v21]) (rest := [.int x1]) C hW hS (show 0 < 18 by decide) cm0 kcX12 (mX12_firstOf v21  (up σ 0 0 (0 : Int32)) v28 h28) cwX12_firstOf cvX12_firstOf rfl mlX12_369 ⟨by decide, by decide⟩ rfl hl.1 (Nat.le_of_ble_eq_true rfl) ⟨by decide, by decide⟩ dX12_leaf_28 rfl (fun H locs hW hS => ?_)
    refine lv_isub hx0 hb dX12_leaf_31 ?_
    refine lv_istore (lv' := [(4, .int (x1 - v28)), (3, .int v21), (0, .ref (b + 0)), (1, .int x1), (2, .int x2)]) hx0 hb dX12_leaf_32 hl (by decide) rfl (fun ls hl => ?_)
    refine lv_iload_n hx0 hb dX12_leaf_34 rfl (lv_at hl 4 rfl) ?_
    by_cases q35_0 : x2 = (0 : Int32)
    · rw [if_pos q35_0] at h
      refine lv_tableIn (tgt := 72) hx0 hb dX12_leaf_35 (by rw [q35_0]; decide) (by rw [q35_0]; decide) (by rw [q35_0]; rfl) (by decide) ?_
      refine lv_aload_n hx0 hb dX12_leaf_72 rfl (lv_at hl 2 rfl) ?_
      refine lv_iload_n hx0 hb dX12_leaf_73 rfl (lv_at hl 3 rfl) ?_
      obtain ⟨v74, h74, h⟩ := bnd h
      try dsimp only at h
      refine w_callV (L := (LM E b)) (k := 0) (As := [.int x1]) (rest := []) C hW hS (show 0 < 18 by decide) cm0 kcX12 (mX12_isPresent x1  (up σ 0 0 (0 : Int32)) v74 h74) cwX12_isPresent cvX12_isPresent rfl mlX12_215 ⟨by decide, by decide⟩ rfl hl.1 (Nat.le_of_ble_eq_true rfl) ⟨by decide, by decide⟩ dX12_leaf_74 rfl (fun H locs hW hS => ?_)
      refine lv_if_eq (tgt := 84) hx0 hb dX12_leaf_77 (by decide) (fun c77 => ?_) (fun c77 => ?_)
      · rw [if_pos c77] at h
        refine lv_iconst (v := (0 : Int32)) hx0 hb dX12_leaf_84 (by decide) ?_
        cases h
        exact w_iret C hW hS dX12_leaf_85
      · rw [if_neg c77] at h
        refine lv_iconst (v := (1 : Int32)) hx0 hb dX12_leaf_80 (by decide) ?_
        refine lv_goto (tgt := 85) hx0 hb dX12_leaf_81 (by decide) ?_
        cases h
        exact w_iret C hW hS dX12_leaf_85
    rw [if_neg q35_0] at h
    by_cases q35_1 : x2 = (1 : Int32)
    · rw [if_pos q35_1] at h
      refine lv_tableIn (tgt := 86) hx0 hb dX12_leaf_35 (by rw [q35_1]; decide) (by rw [q35_1]; decide) (by rw [q35_1]; rfl) (by decide) ?_
      refine lv_iload_n hx0 hb dX12_leaf_86 rfl (lv_at hl 1 rfl) ?_
      cases h
      exact w_iret C hW hS dX12_leaf_87
    rw [if_neg q35_1] at h
    by_cases q35_2 : x2 = (2 : Int32)
    · rw [if_pos q35_2] at h
      refine lv_tableIn (tgt := 88) hx0 hb dX12_leaf_35 (by rw [q35_2]; decide) (by rw [q35_2]; decide) (by rw [q35_2]; rfl) (by decide) ?_
      refine lv_iload hx0 hb dX12_leaf_88 (lv_at hl 0 rfl) ?_
      cases h
      exact w_iret C hW hS dX12_leaf_90
    rw [if_neg q35_2] at h
    by_cases q35_3 : x2 = (3 : Int32)
    · rw [if_pos q35_3] at h
      refine lv_tableIn (tgt := 91) hx0 hb dX12_leaf_35 (by rw [q35_3]; decide) (by rw [q35_3]; decide) (by rw [q35_3]; rfl) (by decide) ?_
      refine lv_aload_n hx0 hb dX12_leaf_91 rfl (lv_at hl 2 rfl) ?_
      refine lv_iload_n hx0 hb dX12_leaf_92 rfl (lv_at hl 1 rfl) ?_
      obtain ⟨v93, h93, h⟩ := bnd h
      try dsimp only at h
      refine w_callV (L := (LM E b)) (k := 0) (As := [.int v21]) (rest := []) C hW hS (show 0 < 18 by decide) cm0 kcX12 (mX12_firstOf v21  (up σ 0 0 (0 : Int32)) v93 h93) cwX12_firstOf cvX12_firstOf rfl mlX12_369 ⟨by decide, by decide⟩ rfl hl.1 (Nat.le_of_ble_eq_true rfl) ⟨by decide, by decide⟩ dX12_leaf_93 rfl (fun H locs hW hS => ?_)
      refine lv_aload_n hx0 hb dX12_leaf_96 rfl (lv_at hl 2 rfl) ?_
      refine gtX12_1 C hW flX12_13 dX12_leaf_97 ?_
      refine lv_iload_n hx0 hb dX12_leaf_100 rfl (lv_at hl 1 rfl) ?_
      by_cases z101 : v21 < 0 ∨ lm 1 ≤ v21.toNatClampNeg
      · rw [if_pos z101] at h; cases h
      rw [if_neg z101] at h
      refine ldIm (k := 1) C hW (by decide) z101 dX12_leaf_101 ?_
      refine lv_iadd hx0 hb dX12_leaf_102 ?_
      refine lv_iconst (v := (1 : Int32)) hx0 hb dX12_leaf_103 (by decide) ?_
      refine lv_isub hx0 hb dX12_leaf_104 ?_
      refine lv_iload hx0 hb dX12_leaf_105 (lv_at hl 0 rfl) ?_
      refine lv_isub hx0 hb dX12_leaf_107 ?_
      cases h
      exact w_iret C hW hS dX12_leaf_108
    rw [if_neg q35_3] at h
    by_cases q35_4 : x2 = (4 : Int32)
    · rw [if_pos q35_4] at h
      refine lv_tableIn (tgt := 109) hx0 hb dX12_leaf_35 (by rw [q35_4]; decide) (by rw [q35_4]; decide) (by rw [q35_4]; rfl) (by decide) ?_
      refine lv_aload_n hx0 hb dX12_leaf_109 rfl (lv_at hl 2 rfl) ?_
      refine lv_iload_n hx0 hb dX12_leaf_110 rfl (lv_at hl 3 rfl) ?_
      refine lv_iconst (v := (0 : Int32)) hx0 hb dX12_leaf_111 (by decide) ?_
      obtain ⟨v112, h112, h⟩ := bnd h
      try dsimp only at h
      refine w_callV (L := (LM E b)) (k := 0) (As := [.int x1, .int (0 : Int32)]) (rest := []) C hW hS (show 0 < 18 by decide) cm0 kcX12 (mX12_allOn x1 (0 : Int32)  (up σ 0 0 (0 : Int32)) v112 h112) cwX12_allOn cvX12_allOn rfl mlX12_300 ⟨by decide, by decide⟩ rfl hl.1 (Nat.le_of_ble_eq_true rfl) ⟨by decide, by decide⟩ dX12_leaf_112 rfl (fun H locs hW hS => ?_)
      cases h
      exact w_iret C hW hS dX12_leaf_115
    rw [if_neg q35_4] at h
    by_cases q35_5 : x2 = (5 : Int32)
    · rw [if_pos q35_5] at h
      refine lv_tableIn (tgt := 116) hx0 hb dX12_leaf_35 (by rw [q35_5]; decide) (by rw [q35_5]; decide) (by rw [q35_5]; rfl) (by decide) ?_
      refine lv_aload_n hx0 hb dX12_leaf_116 rfl (lv_at hl 2 rfl) ?_
      refine lv_iload_n hx0 hb dX12_leaf_117 rfl (lv_at hl 3 rfl) ?_
      refine lv_iconst (v := (1 : Int32)) hx0 hb dX12_leaf_118 (by decide) ?_
      obtain ⟨v119, h119, h⟩ := bnd h
      try dsimp only at h
      refine w_callV (L := (LM E b)) (k := 0) (As := [.int x1, .int (1 : Int32)]) (rest := []) C hW hS (show 0 < 18 by decide) cm0 kcX12 (mX12_allOn x1 (1 : Int32)  (up σ 0 0 (0 : Int32)) v119 h119) cwX12_allOn cvX12_allOn rfl mlX12_300 ⟨by decide, by decide⟩ rfl hl.1 (Nat.le_of_ble_eq_true rfl) ⟨by decide, by decide⟩ dX12_leaf_119 rfl (fun H locs hW hS => ?_)
      cases h
      exact w_iret C hW hS dX12_leaf_122
    rw [if_neg q35_5] at h
    refine lv_tableOut (tgt := 123) hx0 hb dX12_leaf_35 (tab6 q35_0 q35_1 q35_2 q35_3 q35_4 q35_5) (by decide) ?_
    refine lv_aload_n hx0 hb dX12_leaf_123 rfl (lv_at hl 2 rfl) ?_
    refine lv_iconst (v := (2 : Int32)) hx0 hb dX12_leaf_124 (by decide) ?_
    obtain ⟨v125, h125, h⟩ := bnd h
    try dsimp only at h
    refine w_callV (L := (LM E b)) (k := 0) (As := [.int (2 : Int32)]) (rest := []) C hW hS (show 0 < 18 by decide) cm0 kcX12 (mX12_fails (2 : Int32)  (up σ 0 0 (0 : Int32)) v125 h125) cwX12_fails cvX12_fails rfl mlX12_94 ⟨by decide, by decide⟩ rfl hl.1 (Nat.le_of_ble_eq_true rfl) ⟨by decide, by decide⟩ dX12_leaf_125 rfl (fun H locs hW hS => ?_)
    cases h
    exact w_iret C hW hS dX12_leaf_128
  · rw [if_pos c10] at h
    refine lv_aload_n hx0 hb dX12_leaf_13 rfl (lv_at hl 0 rfl) ?_
    refine lv_iconst (v := (1 : Int32)) hx0 hb dX12_leaf_14 (by decide) ?_
    obtain ⟨v15, h15, h⟩ := bnd h
    try dsimp only at h
    refine w_callV (L := (LM E b)) (k := 0) (As := [.int (1 : Int32)]) (rest := []) C hW hS (show 0 < 18 by decide) cm0 kcX12 (mX12_fails (1 : Int32)  (up σ 0 0 (0 : Int32)) v15 h15) cwX12_fails cvX12_fails rfl mlX12_94 ⟨by decide, by decide⟩ rfl hl.1 (Nat.le_of_ble_eq_true rfl) ⟨by decide, by decide⟩ dX12_leaf_15 rfl (fun H locs hW hS => ?_)
    cases h
    exact w_iret C hW hS dX12_leaf_18
def fX12_slip (x1 : Int32) (x2 : Int32) (σ : Mem) : Option (Int32 × Mem) :=
  (fX12_isSlip x1 (up σ 0 0 (0 : Int32))).bind fun v7 => if v7 = 0 then ((fX12_fails (1 : Int32) (up σ 0 0 (0 : Int32))).bind fun v15 => some (v15.1, v15.2)) else ((fX12_isIn x2.toInt64 (0 : Int64) (2 : Int64) (up σ 0 0 (0 : Int32))).bind fun v25 => if v25 = 0 then ((fX12_fails (2 : Int32) (up σ 0 0 (0 : Int32))).bind fun v42 => some (v42.1, v42.2)) else ((fX12_ofSlip x1 x2 (up σ 0 0 (0 : Int32))).bind fun v34 => some (v34, up σ 0 0 (0 : Int32))))
set_option maxRecDepth 100000 in
set_option maxHeartbeats 4000000 in
theorem mX12_slip {l : Launch} {E : Ev} {b : Nat} (x1 : Int32) (x2 : Int32) (σ : Mem) (r : (Int32 × Mem)) (h : fX12_slip x1 x2 σ = some r) : Met l yX12_slip (tw yX12_slip cX12_slip 3 (some .int)) { frames := 2, cells := 0, slots := 0, locals := 46 } (va_Pc [.ref (b + 0), .int x1, .int x2] (Pr l E (LM E b) σ)) (Qz E (LM E b) (some (.int r.1)) r.2) 0 0 (La (LM E b)) := by
  refine ct_of (by decide) (Nat.le_of_ble_eq_true rfl) ?_
  intro p e s m below meth c C hW hS ls hl
  have hx0 := C.1
  have hb := C.2.1
  have hl : lv_has ls 3 [(0, .ref (b + 0)), (1, .int x1), (2, .int x2)] := hl
  unfold fX12_slip at h
  refine lv_aload_n hx0 hb dX12_slip_0 rfl (lv_at hl 0 rfl) ?_
  refine lv_iconst (v := (0 : Int32)) hx0 hb dX12_slip_1 (by decide) ?_
  refine ptX12_0 C hW hS flX12_3 dX12_slip_2 (fun H locs hW hS => ?_)
  refine lv_aload_n hx0 hb dX12_slip_5 rfl (lv_at hl 0 rfl) ?_
  refine lv_iload_n hx0 hb dX12_slip_6 rfl (lv_at hl 1 rfl) ?_
  obtain ⟨v7, h7, h⟩ := bnd h
  try dsimp only at h
  refine w_callV (L := (LM E b)) (k := 0) (As := [.int x1]) (rest := []) C hW hS (show 0 < 18 by decide) cm0 kcX12 (mX12_isSlip x1  (up σ 0 0 (0 : Int32)) v7 h7) cwX12_isSlip cvX12_isSlip rfl mlX12_314 ⟨by decide, by decide⟩ rfl hl.1 (Nat.le_of_ble_eq_true rfl) ⟨by decide, by decide⟩ dX12_slip_7 rfl (fun H locs hW hS => ?_)
  refine lv_if_ne (tgt := 19) hx0 hb dX12_slip_10 (by decide) (fun c10 => ?_) (fun c10 => ?_)
  · rw [if_neg c10] at h
    refine lv_iload_n hx0 hb dX12_slip_19 rfl (lv_at hl 2 rfl) ?_
    refine lv_i2l hx0 hb dX12_slip_20 rfl ?_
    refine lv_lconst (v := (0 : Int64)) hx0 hb dX12_slip_21 (by decide) ?_
    refine lv_ldc2 hx0 hb C.2.2.2.1 (C.2.2.2.2.1 _ klX12_312) dX12_slip_22 ?_
    obtain ⟨v25, h25, h⟩ := bnd h
    try dsimp only at h
    refine w_callS (L := (LM E b)) (As := [.long x2.toInt64, .long (0 : Int64), .long (2 : Int64)]) (rest := []) C hW hS (mX12_isIn x2.toInt64 (0 : Int64) (2 : Int64)  (up σ 0 0 (0 : Int32)) v25 h25) cwX12_isIn csX12_isIn mlX12_101 ⟨by decide, by decide⟩ rfl hl.1 (Nat.le_of_ble_eq_true rfl) ⟨by decide, by decide⟩ dX12_slip_25 rfl (fun H locs hW hS => ?_)
    refine lv_if_eq (tgt := 40) hx0 hb dX12_slip_28 (by decide) (fun c28 => ?_) (fun c28 => ?_)
    · rw [if_pos c28] at h
      refine lv_aload_n hx0 hb dX12_slip_40 rfl (lv_at hl 0 rfl) ?_
      refine lv_iconst (v := (2 : Int32)) hx0 hb dX12_slip_41 (by decide) ?_
      obtain ⟨v42, h42, h⟩ := bnd h
      try dsimp only at h
      refine w_callV (L := (LM E b)) (k := 0) (As := [.int (2 : Int32)]) (rest := []) C hW hS (show 0 < 18 by decide) cm0 kcX12 (mX12_fails (2 : Int32)  (up σ 0 0 (0 : Int32)) v42 h42) cwX12_fails cvX12_fails rfl mlX12_94 ⟨by decide, by decide⟩ rfl hl.1 (Nat.le_of_ble_eq_true rfl) ⟨by decide, by decide⟩ dX12_slip_42 rfl (fun H locs hW hS => ?_)
      cases h
      exact w_iret C hW hS dX12_slip_45
    · rw [if_neg c28] at h
      refine lv_aload_n hx0 hb dX12_slip_31 rfl (lv_at hl 0 rfl) ?_
      refine lv_iload_n hx0 hb dX12_slip_32 rfl (lv_at hl 1 rfl) ?_
      refine lv_iload_n hx0 hb dX12_slip_33 rfl (lv_at hl 2 rfl) ?_
      obtain ⟨v34, h34, h⟩ := bnd h
      try dsimp only at h
      refine w_callV (L := (LM E b)) (k := 0) (As := [.int x1, .int x2]) (rest := []) C hW hS (show 0 < 18 by decide) cm0 kcX12 (mX12_ofSlip x1 x2  (up σ 0 0 (0 : Int32)) v34 h34) cwX12_ofSlip cvX12_ofSlip rfl mlX12_218 ⟨by decide, by decide⟩ rfl hl.1 (Nat.le_of_ble_eq_true rfl) ⟨by decide, by decide⟩ dX12_slip_34 rfl (fun H locs hW hS => ?_)
      refine lv_goto (tgt := 45) hx0 hb dX12_slip_37 (by decide) ?_
      cases h
      exact w_iret C hW hS dX12_slip_45
  · rw [if_pos c10] at h
    refine lv_aload_n hx0 hb dX12_slip_13 rfl (lv_at hl 0 rfl) ?_
    refine lv_iconst (v := (1 : Int32)) hx0 hb dX12_slip_14 (by decide) ?_
    obtain ⟨v15, h15, h⟩ := bnd h
    try dsimp only at h
    refine w_callV (L := (LM E b)) (k := 0) (As := [.int (1 : Int32)]) (rest := []) C hW hS (show 0 < 18 by decide) cm0 kcX12 (mX12_fails (1 : Int32)  (up σ 0 0 (0 : Int32)) v15 h15) cwX12_fails cvX12_fails rfl mlX12_94 ⟨by decide, by decide⟩ rfl hl.1 (Nat.le_of_ble_eq_true rfl) ⟨by decide, by decide⟩ dX12_slip_15 rfl (fun H locs hW hS => ?_)
    cases h
    exact w_iret C hW hS dX12_slip_18
def fX12_writesMissing_l4 (x1 : Int32) : Nat → Int32 → Int32 → Mem → Option (Int32 × Int32 × Mem)
  | 0, _, _, _ => none
  | n + 1, x2, x3, σ => if x1 < 0 ∨ lm 1 ≤ x1.toNatClampNeg then none else if (σ 1 x1.toNatClampNeg) ≤ x3 then (some (x2, x3, σ)) else ((fX12_firstOf x1 σ).bind fun v17 => (fX12_isPresent (v17 + x3) σ).bind fun v22 => if v22 = 0 then (if x2 = 0 then ((fX12_writes (40 : Int32) σ).bind fun v43 => if x2 = 0 then ((fX12_writes (45 : Int32) v43).bind fun v53 => (fX12_writesNumber (x3 + (1 : Int32)) v53).bind fun v60 => fX12_writesMissing_l4 x1 n (x2 + (1 : Int32)) (x3 + (1 : Int32)) v60) else ((fX12_writesNumber (x3 + (1 : Int32)) v43).bind fun v60 => fX12_writesMissing_l4 x1 n (x2 + (1 : Int32)) (x3 + (1 : Int32)) v60)) else ((fX12_writes (44 : Int32) σ).bind fun v43 => if x2 = 0 then ((fX12_writes (45 : Int32) v43).bind fun v53 => (fX12_writesNumber (x3 + (1 : Int32)) v53).bind fun v60 => fX12_writesMissing_l4 x1 n (x2 + (1 : Int32)) (x3 + (1 : Int32)) v60) else ((fX12_writesNumber (x3 + (1 : Int32)) v43).bind fun v60 => fX12_writesMissing_l4 x1 n (x2 + (1 : Int32)) (x3 + (1 : Int32)) v60))) else (fX12_writesMissing_l4 x1 n x2 (x3 + (1 : Int32)) σ))
set_option maxRecDepth 100000 in
set_option maxHeartbeats 4000000 in
theorem bX12_writesMissing_l4 {p : Program} {l : Launch} {e : Env} {s : State} {m : MethodId} {args : Array Value} {below : List Frame} {meth : Method} {c : Code} {E : Ev} {b : Nat} (C : Cx p l s m args meth c E cX12_writesMissing 4 RX12 none) (x1 : Int32) {Qf : State → Prop} {q : Int32 × Int32 × Mem} (hx : ∀ H locs ls, Wd E (LM E b) q.2.2 H → va_S (La (LM E b)) s.heap H locs → lv_has ls 4 [(0, .ref (b + 0)), (1, .int x1), (2, .int q.1), (3, .int q.2.1)] → W p l e { frames := 2, cells := 0, slots := 0, locals := 44 } s m args below meth c H locs 0 0 Qf (F0 m 72 ls [])) : ∀ (n : Nat) (x2 : Int32) (x3 : Int32) (σ : Mem), fX12_writesMissing_l4 x1 n x2 x3 σ = some q → ∀ (H : Heap) (locs : List Loc) (ls : Array Slot), Wd E (LM E b) σ H → va_S (La (LM E b)) s.heap H locs → lv_has ls 4 [(0, .ref (b + 0)), (1, .int x1), (2, .int x2), (3, .int x3)] → W p l e { frames := 2, cells := 0, slots := 0, locals := 44 } s m args below meth c H locs 0 0 Qf (F0 m 4 ls []) := by
  have hx0 := C.1
  have hb := C.2.1
  intro n
  induction n with
  | zero => intro x2 x3 σ h; simp [fX12_writesMissing_l4] at h
  | succ n ih =>
    intro x2 x3 σ h H locs ls hW hS hl
    unfold fX12_writesMissing_l4 at h
    refine lv_iload_n hx0 hb dX12_writesMissing_4 rfl (lv_at hl 3 rfl) ?_
    refine lv_aload_n hx0 hb dX12_writesMissing_5 rfl (lv_at hl 0 rfl) ?_
    refine gtX12_1 C hW flX12_13 dX12_writesMissing_6 ?_
    refine lv_iload_n hx0 hb dX12_writesMissing_9 rfl (lv_at hl 1 rfl) ?_
    by_cases z10 : x1 < 0 ∨ lm 1 ≤ x1.toNatClampNeg
    · rw [if_pos z10] at h; cases h
    rw [if_neg z10] at h
    refine ldIm (k := 1) C hW (by decide) z10 dX12_writesMissing_10 ?_
    refine lv_icmp_ge (tgt := 72) hx0 hb dX12_writesMissing_11 (by decide) (fun c11 => ?_) (fun c11 => ?_)
    · rw [if_pos c11] at h
      cases h
      exact hx _ _ _ hW hS (lv_sub hl [0, 1, 2, 3] rfl)
    · rw [if_neg c11] at h
      refine lv_aload_n hx0 hb dX12_writesMissing_14 rfl (lv_at hl 0 rfl) ?_
      refine lv_aload_n hx0 hb dX12_writesMissing_15 rfl (lv_at hl 0 rfl) ?_
      refine lv_iload_n hx0 hb dX12_writesMissing_16 rfl (lv_at hl 1 rfl) ?_
      obtain ⟨v17, h17, h⟩ := bnd h
      try dsimp only at h
      refine w_callV (L := (LM E b)) (k := 0) (As := [.int x1]) (rest := [.ref (b + 0)]) C hW hS (show 0 < 18 by decide) cm0 kcX12 (mX12_firstOf x1  σ v17 h17) cwX12_firstOf cvX12_firstOf rfl mlX12_369 ⟨by decide, by decide⟩ rfl hl.1 (Nat.le_of_ble_eq_true rfl) ⟨by decide, by decide⟩ dX12_writesMissing_17 rfl (fun H locs hW hS => ?_)
      refine lv_iload_n hx0 hb dX12_writesMissing_20 rfl (lv_at hl 3 rfl) ?_
      refine lv_iadd hx0 hb dX12_writesMissing_21 ?_
      obtain ⟨v22, h22, h⟩ := bnd h
      try dsimp only at h
      refine w_callV (L := (LM E b)) (k := 0) (As := [.int (v17 + x3)]) (rest := []) C hW hS (show 0 < 18 by decide) cm0 kcX12 (mX12_isPresent (v17 + x3)  σ v22 h22) cwX12_isPresent cvX12_isPresent rfl mlX12_215 ⟨by decide, by decide⟩ rfl hl.1 (Nat.le_of_ble_eq_true rfl) ⟨by decide, by decide⟩ dX12_writesMissing_22 rfl (fun H locs hW hS => ?_)
      refine lv_if_eq (tgt := 31) hx0 hb dX12_writesMissing_25 (by decide) (fun c25 => ?_) (fun c25 => ?_)
      · rw [if_pos c25] at h
        refine lv_aload_n hx0 hb dX12_writesMissing_31 rfl (lv_at hl 0 rfl) ?_
        refine lv_iload_n hx0 hb dX12_writesMissing_32 rfl (lv_at hl 2 rfl) ?_
        refine lv_if_ne (tgt := 41) hx0 hb dX12_writesMissing_33 (by decide) (fun c33 => ?_) (fun c33 => ?_)
        · rw [if_neg c33] at h
          refine lv_bipush (v := (44 : Int32)) hx0 hb dX12_writesMissing_41 (by decide) ?_
          obtain ⟨v43, h43, h⟩ := bnd h
          try dsimp only at h
          refine w_callV (L := (LM E b)) (k := 0) (As := [.int (44 : Int32)]) (rest := []) C hW hS (show 0 < 18 by decide) cm0 kcX12 (mX12_writes (44 : Int32)  σ v43 h43) cwX12_writes cvX12_writes rfl mlX12_245 ⟨by decide, by decide⟩ rfl hl.1 (Nat.le_of_ble_eq_true rfl) ⟨by decide, by decide⟩ dX12_writesMissing_43 rfl (fun H locs hW hS => ?_)
          refine lv_iload_n hx0 hb dX12_writesMissing_46 rfl (lv_at hl 2 rfl) ?_
          refine lv_if_ne (tgt := 56) hx0 hb dX12_writesMissing_47 (by decide) (fun c47 => ?_) (fun c47 => ?_)
          · rw [if_neg c47] at h
            refine lv_aload_n hx0 hb dX12_writesMissing_56 rfl (lv_at hl 0 rfl) ?_
            refine lv_iload_n hx0 hb dX12_writesMissing_57 rfl (lv_at hl 3 rfl) ?_
            refine lv_iconst (v := (1 : Int32)) hx0 hb dX12_writesMissing_58 (by decide) ?_
            refine lv_iadd hx0 hb dX12_writesMissing_59 ?_
            obtain ⟨v60, h60, h⟩ := bnd h
            try dsimp only at h
            refine w_callV (L := (LM E b)) (k := 0) (As := [.int (x3 + (1 : Int32))]) (rest := []) C hW hS (show 0 < 18 by decide) cm0 kcX12 (mX12_writesNumber (x3 + (1 : Int32))  v43 v60 h60) cwX12_writesNumber cvX12_writesNumber rfl mlX12_253 ⟨by decide, by decide⟩ rfl hl.1 (Nat.le_of_ble_eq_true rfl) ⟨by decide, by decide⟩ dX12_writesMissing_60 rfl (fun H locs hW hS => ?_)
            refine lv_iinc (v := x2 + (1 : Int32)) (lv' := [(2, .int (x2 + (1 : Int32))), (0, .ref (b + 0)), (1, .int x1), (3, .int x3)]) hx0 hb dX12_writesMissing_63 hl (k := 2) rfl rfl (by decide) rfl (fun ls hl => ?_)
            refine lv_iinc (v := x3 + (1 : Int32)) (lv' := [(3, .int (x3 + (1 : Int32))), (2, .int (x2 + (1 : Int32))), (0, .ref (b + 0)), (1, .int x1)]) hx0 hb dX12_writesMissing_66 hl (k := 3) rfl rfl (by decide) rfl (fun ls hl => ?_)
            refine lv_goto (tgt := 4) hx0 hb dX12_writesMissing_69 (by decide) ?_
            exact ih (x2 + (1 : Int32)) (x3 + (1 : Int32)) v60 h _ _ _ hW hS (lv_sub hl [2, 3, 1, 0] rfl)
          · rw [if_pos c47] at h
            refine lv_aload_n hx0 hb dX12_writesMissing_50 rfl (lv_at hl 0 rfl) ?_
            refine lv_bipush (v := (45 : Int32)) hx0 hb dX12_writesMissing_51 (by decide) ?_
            obtain ⟨v53, h53, h⟩ := bnd h
            try dsimp only at h
            refine w_callV (L := (LM E b)) (k := 0) (As := [.int (45 : Int32)]) (rest := []) C hW hS (show 0 < 18 by decide) cm0 kcX12 (mX12_writes (45 : Int32)  v43 v53 h53) cwX12_writes cvX12_writes rfl mlX12_245 ⟨by decide, by decide⟩ rfl hl.1 (Nat.le_of_ble_eq_true rfl) ⟨by decide, by decide⟩ dX12_writesMissing_53 rfl (fun H locs hW hS => ?_)
            refine lv_aload_n hx0 hb dX12_writesMissing_56 rfl (lv_at hl 0 rfl) ?_
            refine lv_iload_n hx0 hb dX12_writesMissing_57 rfl (lv_at hl 3 rfl) ?_
            refine lv_iconst (v := (1 : Int32)) hx0 hb dX12_writesMissing_58 (by decide) ?_
            refine lv_iadd hx0 hb dX12_writesMissing_59 ?_
            obtain ⟨v60, h60, h⟩ := bnd h
            try dsimp only at h
            refine w_callV (L := (LM E b)) (k := 0) (As := [.int (x3 + (1 : Int32))]) (rest := []) C hW hS (show 0 < 18 by decide) cm0 kcX12 (mX12_writesNumber (x3 + (1 : Int32))  v53 v60 h60) cwX12_writesNumber cvX12_writesNumber rfl mlX12_253 ⟨by decide, by decide⟩ rfl hl.1 (Nat.le_of_ble_eq_true rfl) ⟨by decide, by decide⟩ dX12_writesMissing_60 rfl (fun H locs hW hS => ?_)
            refine lv_iinc (v := x2 + (1 : Int32)) (lv' := [(2, .int (x2 + (1 : Int32))), (0, .ref (b + 0)), (1, .int x1), (3, .int x3)]) hx0 hb dX12_writesMissing_63 hl (k := 2) rfl rfl (by decide) rfl (fun ls hl => ?_)
            refine lv_iinc (v := x3 + (1 : Int32)) (lv' := [(3, .int (x3 + (1 : Int32))), (2, .int (x2 + (1 : Int32))), (0, .ref (b + 0)), (1, .int x1)]) hx0 hb dX12_writesMissing_66 hl (k := 3) rfl rfl (by decide) rfl (fun ls hl => ?_)
            refine lv_goto (tgt := 4) hx0 hb dX12_writesMissing_69 (by decide) ?_
            exact ih (x2 + (1 : Int32)) (x3 + (1 : Int32)) v60 h _ _ _ hW hS (lv_sub hl [2, 3, 1, 0] rfl)
        · rw [if_pos c33] at h
          refine lv_bipush (v := (40 : Int32)) hx0 hb dX12_writesMissing_36 (by decide) ?_
          refine lv_goto (tgt := 43) hx0 hb dX12_writesMissing_38 (by decide) ?_
          obtain ⟨v43, h43, h⟩ := bnd h
          try dsimp only at h
          refine w_callV (L := (LM E b)) (k := 0) (As := [.int (40 : Int32)]) (rest := []) C hW hS (show 0 < 18 by decide) cm0 kcX12 (mX12_writes (40 : Int32)  σ v43 h43) cwX12_writes cvX12_writes rfl mlX12_245 ⟨by decide, by decide⟩ rfl hl.1 (Nat.le_of_ble_eq_true rfl) ⟨by decide, by decide⟩ dX12_writesMissing_43 rfl (fun H locs hW hS => ?_)
          refine lv_iload_n hx0 hb dX12_writesMissing_46 rfl (lv_at hl 2 rfl) ?_
          refine lv_if_ne (tgt := 56) hx0 hb dX12_writesMissing_47 (by decide) (fun c47 => ?_) (fun c47 => ?_)
          · rw [if_neg c47] at h
            refine lv_aload_n hx0 hb dX12_writesMissing_56 rfl (lv_at hl 0 rfl) ?_
            refine lv_iload_n hx0 hb dX12_writesMissing_57 rfl (lv_at hl 3 rfl) ?_
            refine lv_iconst (v := (1 : Int32)) hx0 hb dX12_writesMissing_58 (by decide) ?_
            refine lv_iadd hx0 hb dX12_writesMissing_59 ?_
            obtain ⟨v60, h60, h⟩ := bnd h
            try dsimp only at h
            refine w_callV (L := (LM E b)) (k := 0) (As := [.int (x3 + (1 : Int32))]) (rest := []) C hW hS (show 0 < 18 by decide) cm0 kcX12 (mX12_writesNumber (x3 + (1 : Int32))  v43 v60 h60) cwX12_writesNumber cvX12_writesNumber rfl mlX12_253 ⟨by decide, by decide⟩ rfl hl.1 (Nat.le_of_ble_eq_true rfl) ⟨by decide, by decide⟩ dX12_writesMissing_60 rfl (fun H locs hW hS => ?_)
            refine lv_iinc (v := x2 + (1 : Int32)) (lv' := [(2, .int (x2 + (1 : Int32))), (0, .ref (b + 0)), (1, .int x1), (3, .int x3)]) hx0 hb dX12_writesMissing_63 hl (k := 2) rfl rfl (by decide) rfl (fun ls hl => ?_)
            refine lv_iinc (v := x3 + (1 : Int32)) (lv' := [(3, .int (x3 + (1 : Int32))), (2, .int (x2 + (1 : Int32))), (0, .ref (b + 0)), (1, .int x1)]) hx0 hb dX12_writesMissing_66 hl (k := 3) rfl rfl (by decide) rfl (fun ls hl => ?_)
            refine lv_goto (tgt := 4) hx0 hb dX12_writesMissing_69 (by decide) ?_
            exact ih (x2 + (1 : Int32)) (x3 + (1 : Int32)) v60 h _ _ _ hW hS (lv_sub hl [2, 3, 1, 0] rfl)
          · rw [if_pos c47] at h
            refine lv_aload_n hx0 hb dX12_writesMissing_50 rfl (lv_at hl 0 rfl) ?_
            refine lv_bipush (v := (45 : Int32)) hx0 hb dX12_writesMissing_51 (by decide) ?_
            obtain ⟨v53, h53, h⟩ := bnd h
            try dsimp only at h
            refine w_callV (L := (LM E b)) (k := 0) (As := [.int (45 : Int32)]) (rest := []) C hW hS (show 0 < 18 by decide) cm0 kcX12 (mX12_writes (45 : Int32)  v43 v53 h53) cwX12_writes cvX12_writes rfl mlX12_245 ⟨by decide, by decide⟩ rfl hl.1 (Nat.le_of_ble_eq_true rfl) ⟨by decide, by decide⟩ dX12_writesMissing_53 rfl (fun H locs hW hS => ?_)
            refine lv_aload_n hx0 hb dX12_writesMissing_56 rfl (lv_at hl 0 rfl) ?_
            refine lv_iload_n hx0 hb dX12_writesMissing_57 rfl (lv_at hl 3 rfl) ?_
            refine lv_iconst (v := (1 : Int32)) hx0 hb dX12_writesMissing_58 (by decide) ?_
            refine lv_iadd hx0 hb dX12_writesMissing_59 ?_
            obtain ⟨v60, h60, h⟩ := bnd h
            try dsimp only at h
            refine w_callV (L := (LM E b)) (k := 0) (As := [.int (x3 + (1 : Int32))]) (rest := []) C hW hS (show 0 < 18 by decide) cm0 kcX12 (mX12_writesNumber (x3 + (1 : Int32))  v53 v60 h60) cwX12_writesNumber cvX12_writesNumber rfl mlX12_253 ⟨by decide, by decide⟩ rfl hl.1 (Nat.le_of_ble_eq_true rfl) ⟨by decide, by decide⟩ dX12_writesMissing_60 rfl (fun H locs hW hS => ?_)
            refine lv_iinc (v := x2 + (1 : Int32)) (lv' := [(2, .int (x2 + (1 : Int32))), (0, .ref (b + 0)), (1, .int x1), (3, .int x3)]) hx0 hb dX12_writesMissing_63 hl (k := 2) rfl rfl (by decide) rfl (fun ls hl => ?_)
            refine lv_iinc (v := x3 + (1 : Int32)) (lv' := [(3, .int (x3 + (1 : Int32))), (2, .int (x2 + (1 : Int32))), (0, .ref (b + 0)), (1, .int x1)]) hx0 hb dX12_writesMissing_66 hl (k := 3) rfl rfl (by decide) rfl (fun ls hl => ?_)
            refine lv_goto (tgt := 4) hx0 hb dX12_writesMissing_69 (by decide) ?_
            exact ih (x2 + (1 : Int32)) (x3 + (1 : Int32)) v60 h _ _ _ hW hS (lv_sub hl [2, 3, 1, 0] rfl)
      · rw [if_neg c25] at h
        refine lv_goto (tgt := 66) hx0 hb dX12_writesMissing_28 (by decide) ?_
        refine lv_iinc (v := x3 + (1 : Int32)) (lv' := [(3, .int (x3 + (1 : Int32))), (0, .ref (b + 0)), (1, .int x1), (2, .int x2)]) hx0 hb dX12_writesMissing_66 hl (k := 3) rfl rfl (by decide) rfl (fun ls hl => ?_)
        refine lv_goto (tgt := 4) hx0 hb dX12_writesMissing_69 (by decide) ?_
        exact ih x2 (x3 + (1 : Int32)) σ h _ _ _ hW hS (lv_sub hl [1, 2, 3, 0] rfl)
def fX12_writesMissing (x1 : Int32) (σ : Mem) : Option Mem :=
  (fX12_writesMissing_l4 x1 FU (0 : Int32) (0 : Int32) σ).bind fun q4 => if q4.1 ≤ 0 then (some q4.2.2) else ((fX12_writes (41 : Int32) q4.2.2).bind fun v79 => some v79)
set_option maxRecDepth 100000 in
set_option maxHeartbeats 4000000 in
theorem mX12_writesMissing {l : Launch} {E : Ev} {b : Nat} (x1 : Int32) (σ : Mem) (r : Mem) (h : fX12_writesMissing x1 σ = some r) : Met l yX12_writesMissing (tw yX12_writesMissing cX12_writesMissing 4 none) { frames := 2, cells := 0, slots := 0, locals := 44 } (va_Pc [.ref (b + 0), .int x1] (Pr l E (LM E b) σ)) (Qz E (LM E b) none r) 0 0 (La (LM E b)) := by
  refine ct_of (by decide) (Nat.le_of_ble_eq_true rfl) ?_
  intro p e s m below meth c C hW hS ls hl
  have hx0 := C.1
  have hb := C.2.1
  have hl : lv_has ls 4 [(0, .ref (b + 0)), (1, .int x1)] := hl
  unfold fX12_writesMissing at h
  refine lv_iconst (v := (0 : Int32)) hx0 hb dX12_writesMissing_0 (by decide) ?_
  refine lv_istore_n (lv' := [(2, .int (0 : Int32)), (0, .ref (b + 0)), (1, .int x1)]) hx0 hb dX12_writesMissing_1 rfl hl (by decide) rfl (fun ls hl => ?_)
  refine lv_iconst (v := (0 : Int32)) hx0 hb dX12_writesMissing_2 (by decide) ?_
  refine lv_istore_n (lv' := [(3, .int (0 : Int32)), (2, .int (0 : Int32)), (0, .ref (b + 0)), (1, .int x1)]) hx0 hb dX12_writesMissing_3 rfl hl (by decide) rfl (fun ls hl => ?_)
  obtain ⟨q4, h4, h⟩ := bnd h
  try dsimp only at h
  refine bX12_writesMissing_l4 C x1  (q := q4) ?_ FU (0 : Int32) (0 : Int32) σ h4 _ _ _ hW hS (lv_sub hl [2, 3, 1, 0] rfl)
  intro H locs ls hW hS hl
  refine lv_iload_n hx0 hb dX12_writesMissing_72 rfl (lv_at hl 2 rfl) ?_
  refine lv_if_le (tgt := 82) hx0 hb dX12_writesMissing_73 (by decide) (fun c73 => ?_) (fun c73 => ?_)
  · rw [if_pos c73] at h
    cases h
    exact w_vret C hW hS dX12_writesMissing_82
  · rw [if_neg c73] at h
    refine lv_aload_n hx0 hb dX12_writesMissing_76 rfl (lv_at hl 0 rfl) ?_
    refine lv_bipush (v := (41 : Int32)) hx0 hb dX12_writesMissing_77 (by decide) ?_
    obtain ⟨v79, h79, h⟩ := bnd h
    try dsimp only at h
    refine w_callV (L := (LM E b)) (k := 0) (As := [.int (41 : Int32)]) (rest := []) C hW hS (show 0 < 18 by decide) cm0 kcX12 (mX12_writes (41 : Int32)  q4.2.2 v79 h79) cwX12_writes cvX12_writes rfl mlX12_245 ⟨by decide, by decide⟩ rfl hl.1 (Nat.le_of_ble_eq_true rfl) ⟨by decide, by decide⟩ dX12_writesMissing_79 rfl (fun H locs hW hS => ?_)
    cases h
    exact w_vret C hW hS dX12_writesMissing_82
def fX12_formatCollation_j30 (rec : Int32 → Mem → Option (Int32 × Mem)) (x1 : Int32) (σ : Mem) : Option (Int32 × Mem) :=
  (fX12_writes ((65 : Int32) + x1) σ).bind fun v35 => if x1 < 0 ∨ lm 1 ≤ x1.toNatClampNeg then none else (fX12_writesNumber (v35 1 x1.toNatClampNeg) v35).bind fun v45 => (fX12_writesMissing x1 v45).bind fun v50 => rec (x1 + (1 : Int32)) v50
set_option maxRecDepth 100000 in
set_option maxHeartbeats 4000000 in
theorem bX12_formatCollation_j30 {p : Program} {l : Launch} {e : Env} {s : State} {m : MethodId} {args : Array Value} {below : List Frame} {meth : Method} {c : Code} {E : Ev} {b : Nat} (C : Cx p l s m args meth c E cX12_formatCollation 2 RX12 (some .int)) (x1 : Int32) {Qf : State → Prop} {q : Int32 × Mem} (hx : ∀ H locs ls, Wd E (LM E b) q.2 H → va_S (La (LM E b)) s.heap H locs → lv_has ls 2 [(0, .ref (b + 0)), (1, .int q.1)] → W p l e { frames := 3, cells := 0, slots := 0, locals := 67 } s m args below meth c H locs 0 0 Qf (F0 m 59 ls [])) (rec : Int32 → Mem → Option (Int32 × Mem)) (ih : ∀ (x1 : Int32) (σ : Mem), rec x1 σ = some q → ∀ (H : Heap) (locs : List Loc) (ls : Array Slot), Wd E (LM E b) σ H → va_S (La (LM E b)) s.heap H locs → lv_has ls 2 [(0, .ref (b + 0)), (1, .int x1)] → W p l e { frames := 3, cells := 0, slots := 0, locals := 67 } s m args below meth c H locs 0 0 Qf (F0 m 12 ls [])) (σ : Mem) (h : fX12_formatCollation_j30 rec x1 σ = some q) (H : Heap) (locs : List Loc) (ls : Array Slot) (hW : Wd E (LM E b) σ H) (hS : va_S (La (LM E b)) s.heap H locs) (hl : lv_has ls 2 [(0, .ref (b + 0)), (1, .int x1)]) : W p l e { frames := 3, cells := 0, slots := 0, locals := 67 } s m args below meth c H locs 0 0 Qf (F0 m 30 ls []) := by
  have hx0 := C.1
  have hb := C.2.1
  unfold fX12_formatCollation_j30 at h
  refine lv_aload_n hx0 hb dX12_formatCollation_30 rfl (lv_at hl 0 rfl) ?_
  refine lv_bipush (v := (65 : Int32)) hx0 hb dX12_formatCollation_31 (by decide) ?_
  refine lv_iload_n hx0 hb dX12_formatCollation_33 rfl (lv_at hl 1 rfl) ?_
  refine lv_iadd hx0 hb dX12_formatCollation_34 ?_
  obtain ⟨v35, h35, h⟩ := bnd h
  try dsimp only at h
  refine w_callV (L := (LM E b)) (k := 0) (As := [.int ((65 : Int32) + x1)]) (rest := []) C hW hS (show 0 < 18 by decide) cm0 kcX12 (mX12_writes ((65 : Int32) + x1)  σ v35 h35) cwX12_writes cvX12_writes rfl mlX12_245 ⟨by decide, by decide⟩ rfl hl.1 (Nat.le_of_ble_eq_true rfl) ⟨by decide, by decide⟩ dX12_formatCollation_35 rfl (fun H locs hW hS => ?_)
  refine lv_aload_n hx0 hb dX12_formatCollation_38 rfl (lv_at hl 0 rfl) ?_
  refine lv_aload_n hx0 hb dX12_formatCollation_39 rfl (lv_at hl 0 rfl) ?_
  refine gtX12_1 C hW flX12_13 dX12_formatCollation_40 ?_
  refine lv_iload_n hx0 hb dX12_formatCollation_43 rfl (lv_at hl 1 rfl) ?_
  by_cases z44 : x1 < 0 ∨ lm 1 ≤ x1.toNatClampNeg
  · rw [if_pos z44] at h; cases h
  rw [if_neg z44] at h
  refine ldIm (k := 1) C hW (by decide) z44 dX12_formatCollation_44 ?_
  obtain ⟨v45, h45, h⟩ := bnd h
  try dsimp only at h
  refine w_callV (L := (LM E b)) (k := 0) (As := [.int (v35 1 x1.toNatClampNeg)]) (rest := []) C hW hS (show 0 < 18 by decide) cm0 kcX12 (mX12_writesNumber (v35 1 x1.toNatClampNeg)  v35 v45 h45) cwX12_writesNumber cvX12_writesNumber rfl mlX12_253 ⟨by decide, by decide⟩ rfl hl.1 (Nat.le_of_ble_eq_true rfl) ⟨by decide, by decide⟩ dX12_formatCollation_45 rfl (fun H locs hW hS => ?_)
  refine lv_aload_n hx0 hb dX12_formatCollation_48 rfl (lv_at hl 0 rfl) ?_
  refine lv_iload_n hx0 hb dX12_formatCollation_49 rfl (lv_at hl 1 rfl) ?_
  obtain ⟨v50, h50, h⟩ := bnd h
  try dsimp only at h
  refine w_callV (L := (LM E b)) (k := 0) (As := [.int x1]) (rest := []) C hW hS (show 0 < 18 by decide) cm0 kcX12 (mX12_writesMissing x1  v45 v50 h50) cwX12_writesMissing cvX12_writesMissing rfl mlX12_372 ⟨by decide, by decide⟩ rfl hl.1 (Nat.le_of_ble_eq_true rfl) ⟨by decide, by decide⟩ dX12_formatCollation_50 rfl (fun H locs hW hS => ?_)
  refine lv_iinc (v := x1 + (1 : Int32)) (lv' := [(1, .int (x1 + (1 : Int32))), (0, .ref (b + 0))]) hx0 hb dX12_formatCollation_53 hl (k := 1) rfl rfl (by decide) rfl (fun ls hl => ?_)
  refine lv_goto (tgt := 12) hx0 hb dX12_formatCollation_56 (by decide) ?_
  exact ih (x1 + (1 : Int32)) v50 h _ _ _ hW hS (lv_sub hl [1, 0] rfl)
def fX12_formatCollation_l12 : Nat → Int32 → Mem → Option (Int32 × Mem)
  | 0, _, _ => none
  | n + 1, x1, σ => if (σ 0 3) ≤ x1 then (some (x1, σ)) else (if x1 ≤ 0 then (fX12_formatCollation_j30 (fX12_formatCollation_l12 n) x1 σ) else ((fX12_writes (32 : Int32) σ).bind fun v27 => fX12_formatCollation_j30 (fX12_formatCollation_l12 n) x1 v27))
set_option maxRecDepth 100000 in
set_option maxHeartbeats 4000000 in
theorem bX12_formatCollation_l12 {p : Program} {l : Launch} {e : Env} {s : State} {m : MethodId} {args : Array Value} {below : List Frame} {meth : Method} {c : Code} {E : Ev} {b : Nat} (C : Cx p l s m args meth c E cX12_formatCollation 2 RX12 (some .int)) {Qf : State → Prop} {q : Int32 × Mem} (hx : ∀ H locs ls, Wd E (LM E b) q.2 H → va_S (La (LM E b)) s.heap H locs → lv_has ls 2 [(0, .ref (b + 0)), (1, .int q.1)] → W p l e { frames := 3, cells := 0, slots := 0, locals := 67 } s m args below meth c H locs 0 0 Qf (F0 m 59 ls [])) : ∀ (n : Nat) (x1 : Int32) (σ : Mem), fX12_formatCollation_l12 n x1 σ = some q → ∀ (H : Heap) (locs : List Loc) (ls : Array Slot), Wd E (LM E b) σ H → va_S (La (LM E b)) s.heap H locs → lv_has ls 2 [(0, .ref (b + 0)), (1, .int x1)] → W p l e { frames := 3, cells := 0, slots := 0, locals := 67 } s m args below meth c H locs 0 0 Qf (F0 m 12 ls []) := by
  have hx0 := C.1
  have hb := C.2.1
  intro n
  induction n with
  | zero => intro x1 σ h; simp [fX12_formatCollation_l12] at h
  | succ n ih =>
    intro x1 σ h H locs ls hW hS hl
    unfold fX12_formatCollation_l12 at h
    refine lv_iload_n hx0 hb dX12_formatCollation_12 rfl (lv_at hl 1 rfl) ?_
    refine lv_aload_n hx0 hb dX12_formatCollation_13 rfl (lv_at hl 0 rfl) ?_
    refine gtX12_3 C hW flX12_73 dX12_formatCollation_14 ?_
    refine lv_icmp_ge (tgt := 59) hx0 hb dX12_formatCollation_17 (by decide) (fun c17 => ?_) (fun c17 => ?_)
    · rw [if_pos c17] at h
      cases h
      exact hx _ _ _ hW hS (lv_sub hl [0, 1] rfl)
    · rw [if_neg c17] at h
      refine lv_iload_n hx0 hb dX12_formatCollation_20 rfl (lv_at hl 1 rfl) ?_
      refine lv_if_le (tgt := 30) hx0 hb dX12_formatCollation_21 (by decide) (fun c21 => ?_) (fun c21 => ?_)
      · rw [if_pos c21] at h
        exact bX12_formatCollation_j30 C x1 hx _ ih σ h _ _ _ hW hS (lv_sub hl [0, 1] rfl)
      · rw [if_neg c21] at h
        refine lv_aload_n hx0 hb dX12_formatCollation_24 rfl (lv_at hl 0 rfl) ?_
        refine lv_bipush (v := (32 : Int32)) hx0 hb dX12_formatCollation_25 (by decide) ?_
        obtain ⟨v27, h27, h⟩ := bnd h
        try dsimp only at h
        refine w_callV (L := (LM E b)) (k := 0) (As := [.int (32 : Int32)]) (rest := []) C hW hS (show 0 < 18 by decide) cm0 kcX12 (mX12_writes (32 : Int32)  σ v27 h27) cwX12_writes cvX12_writes rfl mlX12_245 ⟨by decide, by decide⟩ rfl hl.1 (Nat.le_of_ble_eq_true rfl) ⟨by decide, by decide⟩ dX12_formatCollation_27 rfl (fun H locs hW hS => ?_)
        exact bX12_formatCollation_j30 C x1 hx _ ih v27 h _ _ _ hW hS (lv_sub hl [0, 1] rfl)
def fX12_formatCollation (σ : Mem) : Option (Int32 × Mem) :=
  (fX12_formatCollation_l12 FU (0 : Int32) (up (up σ 0 0 (0 : Int32)) 0 21 (0 : Int32))).bind fun q12 => (fX12_tells q12.2).bind fun v60 => some (v60.1, v60.2)
set_option maxRecDepth 100000 in
set_option maxHeartbeats 4000000 in
theorem mX12_formatCollation {l : Launch} {E : Ev} {b : Nat} (σ : Mem) (r : (Int32 × Mem)) (h : fX12_formatCollation σ = some r) : Met l yX12_formatCollation (tw yX12_formatCollation cX12_formatCollation 2 (some .int)) { frames := 3, cells := 0, slots := 0, locals := 67 } (va_Pc [.ref (b + 0)] (Pr l E (LM E b) σ)) (Qz E (LM E b) (some (.int r.1)) r.2) 0 0 (La (LM E b)) := by
  refine ct_of (by decide) (Nat.le_of_ble_eq_true rfl) ?_
  intro p e s m below meth c C hW hS ls hl
  have hx0 := C.1
  have hb := C.2.1
  have hl : lv_has ls 2 [(0, .ref (b + 0))] := hl
  unfold fX12_formatCollation at h
  refine lv_aload_n hx0 hb dX12_formatCollation_0 rfl (lv_at hl 0 rfl) ?_
  refine lv_iconst (v := (0 : Int32)) hx0 hb dX12_formatCollation_1 (by decide) ?_
  refine ptX12_0 C hW hS flX12_3 dX12_formatCollation_2 (fun H locs hW hS => ?_)
  refine lv_aload_n hx0 hb dX12_formatCollation_5 rfl (lv_at hl 0 rfl) ?_
  refine lv_iconst (v := (0 : Int32)) hx0 hb dX12_formatCollation_6 (by decide) ?_
  refine ptX12_21 C hW hS flX12_242 dX12_formatCollation_7 (fun H locs hW hS => ?_)
  refine lv_iconst (v := (0 : Int32)) hx0 hb dX12_formatCollation_10 (by decide) ?_
  refine lv_istore_n (lv' := [(1, .int (0 : Int32)), (0, .ref (b + 0))]) hx0 hb dX12_formatCollation_11 rfl hl (by decide) rfl (fun ls hl => ?_)
  obtain ⟨q12, h12, h⟩ := bnd h
  try dsimp only at h
  refine bX12_formatCollation_l12 C   (q := q12) ?_ FU (0 : Int32) (up (up σ 0 0 (0 : Int32)) 0 21 (0 : Int32)) h12 _ _ _ hW hS (lv_sub hl [1, 0] rfl)
  intro H locs ls hW hS hl
  refine lv_aload_n hx0 hb dX12_formatCollation_59 rfl (lv_at hl 0 rfl) ?_
  obtain ⟨v60, h60, h⟩ := bnd h
  try dsimp only at h
  refine w_callV (L := (LM E b)) (k := 0) (As := []) (rest := []) C hW hS (show 0 < 18 by decide) cm0 kcX12 (mX12_tells   q12.2 v60 h60) cwX12_tells cvX12_tells rfl mlX12_375 ⟨by decide, by decide⟩ rfl hl.1 (Nat.le_of_ble_eq_true rfl) ⟨by decide, by decide⟩ dX12_formatCollation_60 rfl (fun H locs hW hS => ?_)
  cases h
  exact w_iret C hW hS dX12_formatCollation_63
def fX12_formattedByte (x1 : Int32) (σ : Mem) : Option (Int32 × Mem) :=
  (fX12_isIn x1.toInt64 (0 : Int64) ((((up σ 0 0 (0 : Int32)) 0 20) - (1 : Int32)).toInt64) (up σ 0 0 (0 : Int32))).bind fun v15 => if v15 = 0 then ((fX12_fails (1 : Int32) (up σ 0 0 (0 : Int32))).bind fun v32 => some (v32.1, v32.2)) else (if x1 < 0 ∨ lm 9 ≤ x1.toNatClampNeg then none else some ((up σ 0 0 (0 : Int32)) 9 x1.toNatClampNeg, up σ 0 0 (0 : Int32)))
set_option maxRecDepth 100000 in
set_option maxHeartbeats 4000000 in
theorem mX12_formattedByte {l : Launch} {E : Ev} {b : Nat} (x1 : Int32) (σ : Mem) (r : (Int32 × Mem)) (h : fX12_formattedByte x1 σ = some r) : Met l yX12_formattedByte (tw yX12_formattedByte cX12_formattedByte 2 (some .int)) { frames := 1, cells := 0, slots := 0, locals := 25 } (va_Pc [.ref (b + 0), .int x1] (Pr l E (LM E b) σ)) (Qz E (LM E b) (some (.int r.1)) r.2) 0 0 (La (LM E b)) := by
  refine ct_of (by decide) (Nat.le_of_ble_eq_true rfl) ?_
  intro p e s m below meth c C hW hS ls hl
  have hx0 := C.1
  have hb := C.2.1
  have hl : lv_has ls 2 [(0, .ref (b + 0)), (1, .int x1)] := hl
  unfold fX12_formattedByte at h
  refine lv_aload_n hx0 hb dX12_formattedByte_0 rfl (lv_at hl 0 rfl) ?_
  refine lv_iconst (v := (0 : Int32)) hx0 hb dX12_formattedByte_1 (by decide) ?_
  refine ptX12_0 C hW hS flX12_3 dX12_formattedByte_2 (fun H locs hW hS => ?_)
  refine lv_iload_n hx0 hb dX12_formattedByte_5 rfl (lv_at hl 1 rfl) ?_
  refine lv_i2l hx0 hb dX12_formattedByte_6 rfl ?_
  refine lv_lconst (v := (0 : Int64)) hx0 hb dX12_formattedByte_7 (by decide) ?_
  refine lv_aload_n hx0 hb dX12_formattedByte_8 rfl (lv_at hl 0 rfl) ?_
  refine gtX12_20 C hW flX12_263 dX12_formattedByte_9 ?_
  refine lv_iconst (v := (1 : Int32)) hx0 hb dX12_formattedByte_12 (by decide) ?_
  refine lv_isub hx0 hb dX12_formattedByte_13 ?_
  refine lv_i2l hx0 hb dX12_formattedByte_14 rfl ?_
  obtain ⟨v15, h15, h⟩ := bnd h
  try dsimp only at h
  refine w_callS (L := (LM E b)) (As := [.long x1.toInt64, .long (0 : Int64), .long ((((up σ 0 0 (0 : Int32)) 0 20) - (1 : Int32)).toInt64)]) (rest := []) C hW hS (mX12_isIn x1.toInt64 (0 : Int64) ((((up σ 0 0 (0 : Int32)) 0 20) - (1 : Int32)).toInt64)  (up σ 0 0 (0 : Int32)) v15 h15) cwX12_isIn csX12_isIn mlX12_101 ⟨by decide, by decide⟩ rfl hl.1 (Nat.le_of_ble_eq_true rfl) ⟨by decide, by decide⟩ dX12_formattedByte_15 rfl (fun H locs hW hS => ?_)
  refine lv_if_eq (tgt := 30) hx0 hb dX12_formattedByte_18 (by decide) (fun c18 => ?_) (fun c18 => ?_)
  · rw [if_pos c18] at h
    refine lv_aload_n hx0 hb dX12_formattedByte_30 rfl (lv_at hl 0 rfl) ?_
    refine lv_iconst (v := (1 : Int32)) hx0 hb dX12_formattedByte_31 (by decide) ?_
    obtain ⟨v32, h32, h⟩ := bnd h
    try dsimp only at h
    refine w_callV (L := (LM E b)) (k := 0) (As := [.int (1 : Int32)]) (rest := []) C hW hS (show 0 < 18 by decide) cm0 kcX12 (mX12_fails (1 : Int32)  (up σ 0 0 (0 : Int32)) v32 h32) cwX12_fails cvX12_fails rfl mlX12_94 ⟨by decide, by decide⟩ rfl hl.1 (Nat.le_of_ble_eq_true rfl) ⟨by decide, by decide⟩ dX12_formattedByte_32 rfl (fun H locs hW hS => ?_)
    cases h
    exact w_iret C hW hS dX12_formattedByte_35
  · rw [if_neg c18] at h
    refine lv_aload_n hx0 hb dX12_formattedByte_21 rfl (lv_at hl 0 rfl) ?_
    refine gtX12_18 C hW flX12_39 dX12_formattedByte_22 ?_
    refine lv_iload_n hx0 hb dX12_formattedByte_25 rfl (lv_at hl 1 rfl) ?_
    by_cases z26 : x1 < 0 ∨ lm 9 ≤ x1.toNatClampNeg
    · rw [if_pos z26] at h; cases h
    rw [if_neg z26] at h
    refine ldBm (k := 9) C hW (by decide) z26 dX12_formattedByte_26 ?_
    refine lv_goto (tgt := 35) hx0 hb dX12_formattedByte_27 (by decide) ?_
    cases h
    exact w_iret C hW hS dX12_formattedByte_35
def fX12_placeCount (σ : Mem) : Option (Int32 × Mem) :=
  (fX12_laysOrder (up σ 0 0 (0 : Int32))).bind fun v6 => some (v6 0 17, v6)
set_option maxRecDepth 100000 in
set_option maxHeartbeats 4000000 in
theorem mX12_placeCount {l : Launch} {E : Ev} {b : Nat} (σ : Mem) (r : (Int32 × Mem)) (h : fX12_placeCount σ = some r) : Met l yX12_placeCount (tw yX12_placeCount cX12_placeCount 1 (some .int)) { frames := 3, cells := 0, slots := 0, locals := 68 } (va_Pc [.ref (b + 0)] (Pr l E (LM E b) σ)) (Qz E (LM E b) (some (.int r.1)) r.2) 0 0 (La (LM E b)) := by
  refine ct_of (by decide) (Nat.le_of_ble_eq_true rfl) ?_
  intro p e s m below meth c C hW hS ls hl
  have hx0 := C.1
  have hb := C.2.1
  have hl : lv_has ls 1 [(0, .ref (b + 0))] := hl
  unfold fX12_placeCount at h
  refine lv_aload_n hx0 hb dX12_placeCount_0 rfl (lv_at hl 0 rfl) ?_
  refine lv_iconst (v := (0 : Int32)) hx0 hb dX12_placeCount_1 (by decide) ?_
  refine ptX12_0 C hW hS flX12_3 dX12_placeCount_2 (fun H locs hW hS => ?_)
  refine lv_aload_n hx0 hb dX12_placeCount_5 rfl (lv_at hl 0 rfl) ?_
  obtain ⟨v6, h6, h⟩ := bnd h
  try dsimp only at h
  refine w_callV (L := (LM E b)) (k := 0) (As := []) (rest := []) C hW hS (show 0 < 18 by decide) cm0 kcX12 (mX12_laysOrder   (up σ 0 0 (0 : Int32)) v6 h6) cwX12_laysOrder cvX12_laysOrder rfl mlX12_239 ⟨by decide, by decide⟩ rfl hl.1 (Nat.le_of_ble_eq_true rfl) ⟨by decide, by decide⟩ dX12_placeCount_6 rfl (fun H locs hW hS => ?_)
  refine lv_aload_n hx0 hb dX12_placeCount_9 rfl (lv_at hl 0 rfl) ?_
  refine gtX12_17 C hW flX12_232 dX12_placeCount_10 ?_
  cases h
  exact w_iret C hW hS dX12_placeCount_13
def fX12_sideAt (x1 : Int32) (x2 : Int32) (σ : Mem) : Option (Int32 × Mem) :=
  (fX12_isPlace x1 (up σ 0 0 (0 : Int32))).bind fun v7 => if v7.1 = 0 then ((fX12_fails (1 : Int32) v7.2).bind fun v15 => some (v15.1, v15.2)) else ((fX12_isIn x2.toInt64 (0 : Int64) (3 : Int64) v7.2).bind fun v25 => if v25 = 0 then ((fX12_fails (2 : Int32) v7.2).bind fun v46 => some (v46.1, v46.2)) else (if (((4 : Int32) * x1) + x2) < 0 ∨ lm 8 ≤ (((4 : Int32) * x1) + x2).toNatClampNeg then none else some (v7.2 8 (((4 : Int32) * x1) + x2).toNatClampNeg, v7.2)))
set_option maxRecDepth 100000 in
set_option maxHeartbeats 4000000 in
theorem mX12_sideAt {l : Launch} {E : Ev} {b : Nat} (x1 : Int32) (x2 : Int32) (σ : Mem) (r : (Int32 × Mem)) (h : fX12_sideAt x1 x2 σ = some r) : Met l yX12_sideAt (tw yX12_sideAt cX12_sideAt 3 (some .int)) { frames := 4, cells := 0, slots := 0, locals := 89 } (va_Pc [.ref (b + 0), .int x1, .int x2] (Pr l E (LM E b) σ)) (Qz E (LM E b) (some (.int r.1)) r.2) 0 0 (La (LM E b)) := by
  refine ct_of (by decide) (Nat.le_of_ble_eq_true rfl) ?_
  intro p e s m below meth c C hW hS ls hl
  have hx0 := C.1
  have hb := C.2.1
  have hl : lv_has ls 3 [(0, .ref (b + 0)), (1, .int x1), (2, .int x2)] := hl
  unfold fX12_sideAt at h
  refine lv_aload_n hx0 hb dX12_sideAt_0 rfl (lv_at hl 0 rfl) ?_
  refine lv_iconst (v := (0 : Int32)) hx0 hb dX12_sideAt_1 (by decide) ?_
  refine ptX12_0 C hW hS flX12_3 dX12_sideAt_2 (fun H locs hW hS => ?_)
  refine lv_aload_n hx0 hb dX12_sideAt_5 rfl (lv_at hl 0 rfl) ?_
  refine lv_iload_n hx0 hb dX12_sideAt_6 rfl (lv_at hl 1 rfl) ?_
  obtain ⟨v7, h7, h⟩ := bnd h
  try dsimp only at h
  refine w_callV (L := (LM E b)) (k := 0) (As := [.int x1]) (rest := []) C hW hS (show 0 < 18 by decide) cm0 kcX12 (mX12_isPlace x1  (up σ 0 0 (0 : Int32)) v7 h7) cwX12_isPlace cvX12_isPlace rfl mlX12_360 ⟨by decide, by decide⟩ rfl hl.1 (Nat.le_of_ble_eq_true rfl) ⟨by decide, by decide⟩ dX12_sideAt_7 rfl (fun H locs hW hS => ?_)
  refine lv_if_ne (tgt := 19) hx0 hb dX12_sideAt_10 (by decide) (fun c10 => ?_) (fun c10 => ?_)
  · rw [if_neg c10] at h
    refine lv_iload_n hx0 hb dX12_sideAt_19 rfl (lv_at hl 2 rfl) ?_
    refine lv_i2l hx0 hb dX12_sideAt_20 rfl ?_
    refine lv_lconst (v := (0 : Int64)) hx0 hb dX12_sideAt_21 (by decide) ?_
    refine lv_ldc2 hx0 hb C.2.2.2.1 (C.2.2.2.2.1 _ klX12_320) dX12_sideAt_22 ?_
    obtain ⟨v25, h25, h⟩ := bnd h
    try dsimp only at h
    refine w_callS (L := (LM E b)) (As := [.long x2.toInt64, .long (0 : Int64), .long (3 : Int64)]) (rest := []) C hW hS (mX12_isIn x2.toInt64 (0 : Int64) (3 : Int64)  v7.2 v25 h25) cwX12_isIn csX12_isIn mlX12_101 ⟨by decide, by decide⟩ rfl hl.1 (Nat.le_of_ble_eq_true rfl) ⟨by decide, by decide⟩ dX12_sideAt_25 rfl (fun H locs hW hS => ?_)
    refine lv_if_eq (tgt := 44) hx0 hb dX12_sideAt_28 (by decide) (fun c28 => ?_) (fun c28 => ?_)
    · rw [if_pos c28] at h
      refine lv_aload_n hx0 hb dX12_sideAt_44 rfl (lv_at hl 0 rfl) ?_
      refine lv_iconst (v := (2 : Int32)) hx0 hb dX12_sideAt_45 (by decide) ?_
      obtain ⟨v46, h46, h⟩ := bnd h
      try dsimp only at h
      refine w_callV (L := (LM E b)) (k := 0) (As := [.int (2 : Int32)]) (rest := []) C hW hS (show 0 < 18 by decide) cm0 kcX12 (mX12_fails (2 : Int32)  v7.2 v46 h46) cwX12_fails cvX12_fails rfl mlX12_94 ⟨by decide, by decide⟩ rfl hl.1 (Nat.le_of_ble_eq_true rfl) ⟨by decide, by decide⟩ dX12_sideAt_46 rfl (fun H locs hW hS => ?_)
      cases h
      exact w_iret C hW hS dX12_sideAt_49
    · rw [if_neg c28] at h
      refine lv_aload_n hx0 hb dX12_sideAt_31 rfl (lv_at hl 0 rfl) ?_
      refine gtX12_16 C hW flX12_36 dX12_sideAt_32 ?_
      refine lv_iconst (v := (4 : Int32)) hx0 hb dX12_sideAt_35 (by decide) ?_
      refine lv_iload_n hx0 hb dX12_sideAt_36 rfl (lv_at hl 1 rfl) ?_
      refine lv_imul hx0 hb dX12_sideAt_37 ?_
      refine lv_iload_n hx0 hb dX12_sideAt_38 rfl (lv_at hl 2 rfl) ?_
      refine lv_iadd hx0 hb dX12_sideAt_39 ?_
      by_cases z40 : (((4 : Int32) * x1) + x2) < 0 ∨ lm 8 ≤ (((4 : Int32) * x1) + x2).toNatClampNeg
      · rw [if_pos z40] at h; cases h
      rw [if_neg z40] at h
      refine ldIm (k := 8) C hW (by decide) z40 dX12_sideAt_40 ?_
      refine lv_goto (tgt := 49) hx0 hb dX12_sideAt_41 (by decide) ?_
      cases h
      exact w_iret C hW hS dX12_sideAt_49
  · rw [if_pos c10] at h
    refine lv_aload_n hx0 hb dX12_sideAt_13 rfl (lv_at hl 0 rfl) ?_
    refine lv_iconst (v := (1 : Int32)) hx0 hb dX12_sideAt_14 (by decide) ?_
    obtain ⟨v15, h15, h⟩ := bnd h
    try dsimp only at h
    refine w_callV (L := (LM E b)) (k := 0) (As := [.int (1 : Int32)]) (rest := []) C hW hS (show 0 < 18 by decide) cm0 kcX12 (mX12_fails (1 : Int32)  v7.2 v15 h15) cwX12_fails cvX12_fails rfl mlX12_94 ⟨by decide, by decide⟩ rfl hl.1 (Nat.le_of_ble_eq_true rfl) ⟨by decide, by decide⟩ dX12_sideAt_15 rfl (fun H locs hW hS => ?_)
    cases h
    exact w_iret C hW hS dX12_sideAt_18
def fX12_placeOf (x1 : Int32) (x2 : Int32) (σ : Mem) : Option (Int32 × Mem) :=
  (fX12_isLeaf x1 (up σ 0 0 (0 : Int32))).bind fun v7 => if v7 = 0 then ((fX12_fails (1 : Int32) (up σ 0 0 (0 : Int32))).bind fun v15 => some (v15.1, v15.2)) else ((fX12_laysOrder (up σ 0 0 (0 : Int32))).bind fun v20 => (fX12_isSide x2 v20).bind fun v24 => if v24 = 0 then ((fX12_fails (2 : Int32) v20).bind fun v41 => some (v41.1, v41.2)) else ((fX12_placeOfLeaf x1 x2 v20).bind fun v33 => some (v33, v20)))
set_option maxRecDepth 100000 in
set_option maxHeartbeats 4000000 in
theorem mX12_placeOf {l : Launch} {E : Ev} {b : Nat} (x1 : Int32) (x2 : Int32) (σ : Mem) (r : (Int32 × Mem)) (h : fX12_placeOf x1 x2 σ = some r) : Met l yX12_placeOf (tw yX12_placeOf cX12_placeOf 3 (some .int)) { frames := 3, cells := 0, slots := 0, locals := 68 } (va_Pc [.ref (b + 0), .int x1, .int x2] (Pr l E (LM E b) σ)) (Qz E (LM E b) (some (.int r.1)) r.2) 0 0 (La (LM E b)) := by
  refine ct_of (by decide) (Nat.le_of_ble_eq_true rfl) ?_
  intro p e s m below meth c C hW hS ls hl
  have hx0 := C.1
  have hb := C.2.1
  have hl : lv_has ls 3 [(0, .ref (b + 0)), (1, .int x1), (2, .int x2)] := hl
  unfold fX12_placeOf at h
  refine lv_aload_n hx0 hb dX12_placeOf_0 rfl (lv_at hl 0 rfl) ?_
  refine lv_iconst (v := (0 : Int32)) hx0 hb dX12_placeOf_1 (by decide) ?_
  refine ptX12_0 C hW hS flX12_3 dX12_placeOf_2 (fun H locs hW hS => ?_)
  refine lv_aload_n hx0 hb dX12_placeOf_5 rfl (lv_at hl 0 rfl) ?_
  refine lv_iload_n hx0 hb dX12_placeOf_6 rfl (lv_at hl 1 rfl) ?_
  obtain ⟨v7, h7, h⟩ := bnd h
  try dsimp only at h
  refine w_callV (L := (LM E b)) (k := 0) (As := [.int x1]) (rest := []) C hW hS (show 0 < 18 by decide) cm0 kcX12 (mX12_isLeaf x1  (up σ 0 0 (0 : Int32)) v7 h7) cwX12_isLeaf cvX12_isLeaf rfl mlX12_297 ⟨by decide, by decide⟩ rfl hl.1 (Nat.le_of_ble_eq_true rfl) ⟨by decide, by decide⟩ dX12_placeOf_7 rfl (fun H locs hW hS => ?_)
  refine lv_if_ne (tgt := 19) hx0 hb dX12_placeOf_10 (by decide) (fun c10 => ?_) (fun c10 => ?_)
  · rw [if_neg c10] at h
    refine lv_aload_n hx0 hb dX12_placeOf_19 rfl (lv_at hl 0 rfl) ?_
    obtain ⟨v20, h20, h⟩ := bnd h
    try dsimp only at h
    refine w_callV (L := (LM E b)) (k := 0) (As := []) (rest := []) C hW hS (show 0 < 18 by decide) cm0 kcX12 (mX12_laysOrder   (up σ 0 0 (0 : Int32)) v20 h20) cwX12_laysOrder cvX12_laysOrder rfl mlX12_239 ⟨by decide, by decide⟩ rfl hl.1 (Nat.le_of_ble_eq_true rfl) ⟨by decide, by decide⟩ dX12_placeOf_20 rfl (fun H locs hW hS => ?_)
    refine lv_iload_n hx0 hb dX12_placeOf_23 rfl (lv_at hl 2 rfl) ?_
    obtain ⟨v24, h24, h⟩ := bnd h
    try dsimp only at h
    refine w_callS (L := (LM E b)) (As := [.int x2]) (rest := []) C hW hS (mX12_isSide x2  v20 v24 h24) cwX12_isSide csX12_isSide mlX12_309 ⟨by decide, by decide⟩ rfl hl.1 (Nat.le_of_ble_eq_true rfl) ⟨by decide, by decide⟩ dX12_placeOf_24 rfl (fun H locs hW hS => ?_)
    refine lv_if_eq (tgt := 39) hx0 hb dX12_placeOf_27 (by decide) (fun c27 => ?_) (fun c27 => ?_)
    · rw [if_pos c27] at h
      refine lv_aload_n hx0 hb dX12_placeOf_39 rfl (lv_at hl 0 rfl) ?_
      refine lv_iconst (v := (2 : Int32)) hx0 hb dX12_placeOf_40 (by decide) ?_
      obtain ⟨v41, h41, h⟩ := bnd h
      try dsimp only at h
      refine w_callV (L := (LM E b)) (k := 0) (As := [.int (2 : Int32)]) (rest := []) C hW hS (show 0 < 18 by decide) cm0 kcX12 (mX12_fails (2 : Int32)  v20 v41 h41) cwX12_fails cvX12_fails rfl mlX12_94 ⟨by decide, by decide⟩ rfl hl.1 (Nat.le_of_ble_eq_true rfl) ⟨by decide, by decide⟩ dX12_placeOf_41 rfl (fun H locs hW hS => ?_)
      cases h
      exact w_iret C hW hS dX12_placeOf_44
    · rw [if_neg c27] at h
      refine lv_aload_n hx0 hb dX12_placeOf_30 rfl (lv_at hl 0 rfl) ?_
      refine lv_iload_n hx0 hb dX12_placeOf_31 rfl (lv_at hl 1 rfl) ?_
      refine lv_iload_n hx0 hb dX12_placeOf_32 rfl (lv_at hl 2 rfl) ?_
      obtain ⟨v33, h33, h⟩ := bnd h
      try dsimp only at h
      refine w_callV (L := (LM E b)) (k := 0) (As := [.int x1, .int x2]) (rest := []) C hW hS (show 0 < 18 by decide) cm0 kcX12 (mX12_placeOfLeaf x1 x2  v20 v33 h33) cwX12_placeOfLeaf cvX12_placeOfLeaf rfl mlX12_269 ⟨by decide, by decide⟩ rfl hl.1 (Nat.le_of_ble_eq_true rfl) ⟨by decide, by decide⟩ dX12_placeOf_33 rfl (fun H locs hW hS => ?_)
      refine lv_goto (tgt := 44) hx0 hb dX12_placeOf_36 (by decide) ?_
      cases h
      exact w_iret C hW hS dX12_placeOf_44
  · rw [if_pos c10] at h
    refine lv_aload_n hx0 hb dX12_placeOf_13 rfl (lv_at hl 0 rfl) ?_
    refine lv_iconst (v := (1 : Int32)) hx0 hb dX12_placeOf_14 (by decide) ?_
    obtain ⟨v15, h15, h⟩ := bnd h
    try dsimp only at h
    refine w_callV (L := (LM E b)) (k := 0) (As := [.int (1 : Int32)]) (rest := []) C hW hS (show 0 < 18 by decide) cm0 kcX12 (mX12_fails (1 : Int32)  (up σ 0 0 (0 : Int32)) v15 h15) cwX12_fails cvX12_fails rfl mlX12_94 ⟨by decide, by decide⟩ rfl hl.1 (Nat.le_of_ble_eq_true rfl) ⟨by decide, by decide⟩ dX12_placeOf_15 rfl (fun H locs hW hS => ?_)
    cases h
    exact w_iret C hW hS dX12_placeOf_18
def fX12_formatLabel (x1 : Int32) (σ : Mem) : Option (Int32 × Mem) :=
  (fX12_isPlace x1 (up σ 0 0 (0 : Int32))).bind fun v7 => if v7.1 = 0 then ((fX12_fails (1 : Int32) v7.2).bind fun v15 => some (v15.1, v15.2)) else ((fX12_laysLabel x1 v7.2).bind fun v21 => (fX12_tells v21).bind fun v25 => some (v25.1, v25.2))
set_option maxRecDepth 100000 in
set_option maxHeartbeats 4000000 in
theorem mX12_formatLabel {l : Launch} {E : Ev} {b : Nat} (x1 : Int32) (σ : Mem) (r : (Int32 × Mem)) (h : fX12_formatLabel x1 σ = some r) : Met l yX12_formatLabel (tw yX12_formatLabel cX12_formatLabel 2 (some .int)) { frames := 7, cells := 0, slots := 0, locals := 234 } (va_Pc [.ref (b + 0), .int x1] (Pr l E (LM E b) σ)) (Qz E (LM E b) (some (.int r.1)) r.2) 0 0 (La (LM E b)) := by
  refine ct_of (by decide) (Nat.le_of_ble_eq_true rfl) ?_
  intro p e s m below meth c C hW hS ls hl
  have hx0 := C.1
  have hb := C.2.1
  have hl : lv_has ls 2 [(0, .ref (b + 0)), (1, .int x1)] := hl
  unfold fX12_formatLabel at h
  refine lv_aload_n hx0 hb dX12_formatLabel_0 rfl (lv_at hl 0 rfl) ?_
  refine lv_iconst (v := (0 : Int32)) hx0 hb dX12_formatLabel_1 (by decide) ?_
  refine ptX12_0 C hW hS flX12_3 dX12_formatLabel_2 (fun H locs hW hS => ?_)
  refine lv_aload_n hx0 hb dX12_formatLabel_5 rfl (lv_at hl 0 rfl) ?_
  refine lv_iload_n hx0 hb dX12_formatLabel_6 rfl (lv_at hl 1 rfl) ?_
  obtain ⟨v7, h7, h⟩ := bnd h
  try dsimp only at h
  refine w_callV (L := (LM E b)) (k := 0) (As := [.int x1]) (rest := []) C hW hS (show 0 < 18 by decide) cm0 kcX12 (mX12_isPlace x1  (up σ 0 0 (0 : Int32)) v7 h7) cwX12_isPlace cvX12_isPlace rfl mlX12_360 ⟨by decide, by decide⟩ rfl hl.1 (Nat.le_of_ble_eq_true rfl) ⟨by decide, by decide⟩ dX12_formatLabel_7 rfl (fun H locs hW hS => ?_)
  refine lv_if_ne (tgt := 19) hx0 hb dX12_formatLabel_10 (by decide) (fun c10 => ?_) (fun c10 => ?_)
  · rw [if_neg c10] at h
    refine lv_aload_n hx0 hb dX12_formatLabel_19 rfl (lv_at hl 0 rfl) ?_
    refine lv_iload_n hx0 hb dX12_formatLabel_20 rfl (lv_at hl 1 rfl) ?_
    obtain ⟨v21, h21, h⟩ := bnd h
    try dsimp only at h
    refine w_callV (L := (LM E b)) (k := 0) (As := [.int x1]) (rest := []) C hW hS (show 0 < 18 by decide) cm0 kcX12 (mX12_laysLabel x1  v7.2 v21 h21) cwX12_laysLabel cvX12_laysLabel rfl mlX12_378 ⟨by decide, by decide⟩ rfl hl.1 (Nat.le_of_ble_eq_true rfl) ⟨by decide, by decide⟩ dX12_formatLabel_21 rfl (fun H locs hW hS => ?_)
    refine lv_aload_n hx0 hb dX12_formatLabel_24 rfl (lv_at hl 0 rfl) ?_
    obtain ⟨v25, h25, h⟩ := bnd h
    try dsimp only at h
    refine w_callV (L := (LM E b)) (k := 0) (As := []) (rest := []) C hW hS (show 0 < 18 by decide) cm0 kcX12 (mX12_tells   v21 v25 h25) cwX12_tells cvX12_tells rfl mlX12_375 ⟨by decide, by decide⟩ rfl hl.1 (Nat.le_of_ble_eq_true rfl) ⟨by decide, by decide⟩ dX12_formatLabel_25 rfl (fun H locs hW hS => ?_)
    cases h
    exact w_iret C hW hS dX12_formatLabel_28
  · rw [if_pos c10] at h
    refine lv_aload_n hx0 hb dX12_formatLabel_13 rfl (lv_at hl 0 rfl) ?_
    refine lv_iconst (v := (1 : Int32)) hx0 hb dX12_formatLabel_14 (by decide) ?_
    obtain ⟨v15, h15, h⟩ := bnd h
    try dsimp only at h
    refine w_callV (L := (LM E b)) (k := 0) (As := [.int (1 : Int32)]) (rest := []) C hW hS (show 0 < 18 by decide) cm0 kcX12 (mX12_fails (1 : Int32)  v7.2 v15 h15) cwX12_fails cvX12_fails rfl mlX12_94 ⟨by decide, by decide⟩ rfl hl.1 (Nat.le_of_ble_eq_true rfl) ⟨by decide, by decide⟩ dX12_formatLabel_15 rfl (fun H locs hW hS => ?_)
    cases h
    exact w_iret C hW hS dX12_formatLabel_18
def fX12_formatLeafLabel (x1 : Int32) (x2 : Int32) (σ : Mem) : Option (Int32 × Mem) :=
  (fX12_isLeaf x1 (up σ 0 0 (0 : Int32))).bind fun v7 => if v7 = 0 then ((fX12_fails (1 : Int32) (up σ 0 0 (0 : Int32))).bind fun v15 => some (v15.1, v15.2)) else ((fX12_isSide x2 (up σ 0 0 (0 : Int32))).bind fun v20 => if v20 = 0 then ((fX12_fails (2 : Int32) (up σ 0 0 (0 : Int32))).bind fun v28 => some (v28.1, v28.2)) else ((fX12_writesLeafLabel x1 x2 (up (up σ 0 0 (0 : Int32)) 0 21 (0 : Int32))).bind fun v40 => (fX12_tells v40).bind fun v44 => some (v44.1, v44.2)))
set_option maxRecDepth 100000 in
set_option maxHeartbeats 4000000 in
theorem mX12_formatLeafLabel {l : Launch} {E : Ev} {b : Nat} (x1 : Int32) (x2 : Int32) (σ : Mem) (r : (Int32 × Mem)) (h : fX12_formatLeafLabel x1 x2 σ = some r) : Met l yX12_formatLeafLabel (tw yX12_formatLeafLabel cX12_formatLeafLabel 3 (some .int)) { frames := 6, cells := 0, slots := 0, locals := 210 } (va_Pc [.ref (b + 0), .int x1, .int x2] (Pr l E (LM E b) σ)) (Qz E (LM E b) (some (.int r.1)) r.2) 0 0 (La (LM E b)) := by
  refine ct_of (by decide) (Nat.le_of_ble_eq_true rfl) ?_
  intro p e s m below meth c C hW hS ls hl
  have hx0 := C.1
  have hb := C.2.1
  have hl : lv_has ls 3 [(0, .ref (b + 0)), (1, .int x1), (2, .int x2)] := hl
  unfold fX12_formatLeafLabel at h
  refine lv_aload_n hx0 hb dX12_formatLeafLabel_0 rfl (lv_at hl 0 rfl) ?_
  refine lv_iconst (v := (0 : Int32)) hx0 hb dX12_formatLeafLabel_1 (by decide) ?_
  refine ptX12_0 C hW hS flX12_3 dX12_formatLeafLabel_2 (fun H locs hW hS => ?_)
  refine lv_aload_n hx0 hb dX12_formatLeafLabel_5 rfl (lv_at hl 0 rfl) ?_
  refine lv_iload_n hx0 hb dX12_formatLeafLabel_6 rfl (lv_at hl 1 rfl) ?_
  obtain ⟨v7, h7, h⟩ := bnd h
  try dsimp only at h
  refine w_callV (L := (LM E b)) (k := 0) (As := [.int x1]) (rest := []) C hW hS (show 0 < 18 by decide) cm0 kcX12 (mX12_isLeaf x1  (up σ 0 0 (0 : Int32)) v7 h7) cwX12_isLeaf cvX12_isLeaf rfl mlX12_297 ⟨by decide, by decide⟩ rfl hl.1 (Nat.le_of_ble_eq_true rfl) ⟨by decide, by decide⟩ dX12_formatLeafLabel_7 rfl (fun H locs hW hS => ?_)
  refine lv_if_ne (tgt := 19) hx0 hb dX12_formatLeafLabel_10 (by decide) (fun c10 => ?_) (fun c10 => ?_)
  · rw [if_neg c10] at h
    refine lv_iload_n hx0 hb dX12_formatLeafLabel_19 rfl (lv_at hl 2 rfl) ?_
    obtain ⟨v20, h20, h⟩ := bnd h
    try dsimp only at h
    refine w_callS (L := (LM E b)) (As := [.int x2]) (rest := []) C hW hS (mX12_isSide x2  (up σ 0 0 (0 : Int32)) v20 h20) cwX12_isSide csX12_isSide mlX12_309 ⟨by decide, by decide⟩ rfl hl.1 (Nat.le_of_ble_eq_true rfl) ⟨by decide, by decide⟩ dX12_formatLeafLabel_20 rfl (fun H locs hW hS => ?_)
    refine lv_if_ne (tgt := 32) hx0 hb dX12_formatLeafLabel_23 (by decide) (fun c23 => ?_) (fun c23 => ?_)
    · rw [if_neg c23] at h
      refine lv_aload_n hx0 hb dX12_formatLeafLabel_32 rfl (lv_at hl 0 rfl) ?_
      refine lv_iconst (v := (0 : Int32)) hx0 hb dX12_formatLeafLabel_33 (by decide) ?_
      refine ptX12_21 C hW hS flX12_242 dX12_formatLeafLabel_34 (fun H locs hW hS => ?_)
      refine lv_aload_n hx0 hb dX12_formatLeafLabel_37 rfl (lv_at hl 0 rfl) ?_
      refine lv_iload_n hx0 hb dX12_formatLeafLabel_38 rfl (lv_at hl 1 rfl) ?_
      refine lv_iload_n hx0 hb dX12_formatLeafLabel_39 rfl (lv_at hl 2 rfl) ?_
      obtain ⟨v40, h40, h⟩ := bnd h
      try dsimp only at h
      refine w_callV (L := (LM E b)) (k := 0) (As := [.int x1, .int x2]) (rest := []) C hW hS (show 0 < 18 by decide) cm0 kcX12 (mX12_writesLeafLabel x1 x2  (up (up σ 0 0 (0 : Int32)) 0 21 (0 : Int32)) v40 h40) cwX12_writesLeafLabel cvX12_writesLeafLabel rfl mlX12_259 ⟨by decide, by decide⟩ rfl hl.1 (Nat.le_of_ble_eq_true rfl) ⟨by decide, by decide⟩ dX12_formatLeafLabel_40 rfl (fun H locs hW hS => ?_)
      refine lv_aload_n hx0 hb dX12_formatLeafLabel_43 rfl (lv_at hl 0 rfl) ?_
      obtain ⟨v44, h44, h⟩ := bnd h
      try dsimp only at h
      refine w_callV (L := (LM E b)) (k := 0) (As := []) (rest := []) C hW hS (show 0 < 18 by decide) cm0 kcX12 (mX12_tells   v40 v44 h44) cwX12_tells cvX12_tells rfl mlX12_375 ⟨by decide, by decide⟩ rfl hl.1 (Nat.le_of_ble_eq_true rfl) ⟨by decide, by decide⟩ dX12_formatLeafLabel_44 rfl (fun H locs hW hS => ?_)
      cases h
      exact w_iret C hW hS dX12_formatLeafLabel_47
    · rw [if_pos c23] at h
      refine lv_aload_n hx0 hb dX12_formatLeafLabel_26 rfl (lv_at hl 0 rfl) ?_
      refine lv_iconst (v := (2 : Int32)) hx0 hb dX12_formatLeafLabel_27 (by decide) ?_
      obtain ⟨v28, h28, h⟩ := bnd h
      try dsimp only at h
      refine w_callV (L := (LM E b)) (k := 0) (As := [.int (2 : Int32)]) (rest := []) C hW hS (show 0 < 18 by decide) cm0 kcX12 (mX12_fails (2 : Int32)  (up σ 0 0 (0 : Int32)) v28 h28) cwX12_fails cvX12_fails rfl mlX12_94 ⟨by decide, by decide⟩ rfl hl.1 (Nat.le_of_ble_eq_true rfl) ⟨by decide, by decide⟩ dX12_formatLeafLabel_28 rfl (fun H locs hW hS => ?_)
      cases h
      exact w_iret C hW hS dX12_formatLeafLabel_31
  · rw [if_pos c10] at h
    refine lv_aload_n hx0 hb dX12_formatLeafLabel_13 rfl (lv_at hl 0 rfl) ?_
    refine lv_iconst (v := (1 : Int32)) hx0 hb dX12_formatLeafLabel_14 (by decide) ?_
    obtain ⟨v15, h15, h⟩ := bnd h
    try dsimp only at h
    refine w_callV (L := (LM E b)) (k := 0) (As := [.int (1 : Int32)]) (rest := []) C hW hS (show 0 < 18 by decide) cm0 kcX12 (mX12_fails (1 : Int32)  (up σ 0 0 (0 : Int32)) v15 h15) cwX12_fails cvX12_fails rfl mlX12_94 ⟨by decide, by decide⟩ rfl hl.1 (Nat.le_of_ble_eq_true rfl) ⟨by decide, by decide⟩ dX12_formatLeafLabel_15 rfl (fun H locs hW hS => ?_)
    cases h
    exact w_iret C hW hS dX12_formatLeafLabel_18
def fX12_isBuffer_l24 : Nat → Int32 → Int32 → Mem → Option (Int32 × Int32)
  | 0, _, _, _ => none
  | n + 1, x2, x3, σ => if (σ 0 21) ≤ x3 then (some (x2, x3)) else (if x2 = 0 then (some (x2, x3)) else (if x3 < 0 ∨ lm 10 ≤ x3.toNatClampNeg then none else if x3 < 0 ∨ lm 7 ≤ x3.toNatClampNeg then none else if (σ 10 x3.toNatClampNeg) = (σ 7 x3.toNatClampNeg) then (fX12_isBuffer_l24 n (1 : Int32) (x3 + (1 : Int32)) σ) else (fX12_isBuffer_l24 n (0 : Int32) (x3 + (1 : Int32)) σ)))
set_option maxRecDepth 100000 in
set_option maxHeartbeats 4000000 in
theorem bX12_isBuffer_l24 {p : Program} {l : Launch} {e : Env} {s : State} {m : MethodId} {args : Array Value} {below : List Frame} {meth : Method} {c : Code} {E : Ev} {b : Nat} (C : Cx p l s m args meth c E cX12_isBuffer 4 RX12 (some .boolean)) (σ : Mem) {Qf : State → Prop} {q : Int32 × Int32} (hx : ∀ H locs ls, Wd E (LM E b) σ H → va_S (La (LM E b)) s.heap H locs → lv_has ls 4 [(0, .ref (b + 0)), (2, .int q.1), (3, .int q.2)] → W p l e { frames := 7, cells := 0, slots := 0, locals := 234 } s m args below meth c H locs 0 0 Qf (F0 m 63 ls [])) : ∀ (n : Nat) (x2 : Int32) (x3 : Int32), fX12_isBuffer_l24 n x2 x3 σ = some q → ∀ (H : Heap) (locs : List Loc) (ls : Array Slot), Wd E (LM E b) σ H → va_S (La (LM E b)) s.heap H locs → lv_has ls 4 [(0, .ref (b + 0)), (2, .int x2), (3, .int x3)] → W p l e { frames := 7, cells := 0, slots := 0, locals := 234 } s m args below meth c H locs 0 0 Qf (F0 m 24 ls []) := by
  have hx0 := C.1
  have hb := C.2.1
  intro n
  induction n with
  | zero => intro x2 x3 h; simp [fX12_isBuffer_l24] at h
  | succ n ih =>
    intro x2 x3 h H locs ls hW hS hl
    unfold fX12_isBuffer_l24 at h
    refine lv_iload_n hx0 hb dX12_isBuffer_24 rfl (lv_at hl 2 rfl) ?_
    refine lv_aload_n hx0 hb dX12_isBuffer_25 rfl (lv_at hl 0 rfl) ?_
    refine gtX12_21 C hW flX12_242 dX12_isBuffer_26 ?_
    refine lv_icmp_ge (tgt := 63) hx0 hb dX12_isBuffer_29 (by decide) (fun c29 => ?_) (fun c29 => ?_)
    · rw [if_pos c29] at h
      cases h
      exact hx _ _ _ hW hS (lv_sub hl [0, 1, 2] rfl)
    · rw [if_neg c29] at h
      refine lv_iload_n hx0 hb dX12_isBuffer_32 rfl (lv_at hl 1 rfl) ?_
      refine lv_if_eq (tgt := 63) hx0 hb dX12_isBuffer_33 (by decide) (fun c33 => ?_) (fun c33 => ?_)
      · rw [if_pos c33] at h
        cases h
        exact hx _ _ _ hW hS (lv_sub hl [0, 1, 2] rfl)
      · rw [if_neg c33] at h
        refine lv_aload_n hx0 hb dX12_isBuffer_36 rfl (lv_at hl 0 rfl) ?_
        refine gtX12_19 C hW flX12_42 dX12_isBuffer_37 ?_
        refine lv_iload_n hx0 hb dX12_isBuffer_40 rfl (lv_at hl 2 rfl) ?_
        by_cases z41 : x3 < 0 ∨ lm 10 ≤ x3.toNatClampNeg
        · rw [if_pos z41] at h; cases h
        rw [if_neg z41] at h
        refine ldBm (k := 10) C hW (by decide) z41 dX12_isBuffer_41 ?_
        refine lv_aload_n hx0 hb dX12_isBuffer_42 rfl (lv_at hl 0 rfl) ?_
        refine gtX12_11 C hW flX12_32 dX12_isBuffer_43 ?_
        refine lv_iload_n hx0 hb dX12_isBuffer_46 rfl (lv_at hl 2 rfl) ?_
        by_cases z47 : x3 < 0 ∨ lm 7 ≤ x3.toNatClampNeg
        · rw [if_pos z47] at h; cases h
        rw [if_neg z47] at h
        refine ldBm (k := 7) C hW (by decide) z47 dX12_isBuffer_47 ?_
        refine lv_icmp_ne (tgt := 55) hx0 hb dX12_isBuffer_48 (by decide) (fun c48 => ?_) (fun c48 => ?_)
        · rw [if_neg c48] at h
          refine lv_iconst (v := (0 : Int32)) hx0 hb dX12_isBuffer_55 (by decide) ?_
          refine lv_istore_n (lv' := [(2, .int (0 : Int32)), (0, .ref (b + 0)), (3, .int x3)]) hx0 hb dX12_isBuffer_56 rfl hl (by decide) rfl (fun ls hl => ?_)
          refine lv_iinc (v := x3 + (1 : Int32)) (lv' := [(3, .int (x3 + (1 : Int32))), (2, .int (0 : Int32)), (0, .ref (b + 0))]) hx0 hb dX12_isBuffer_57 hl (k := 2) rfl rfl (by decide) rfl (fun ls hl => ?_)
          refine lv_goto (tgt := 24) hx0 hb dX12_isBuffer_60 (by decide) ?_
          exact ih (0 : Int32) (x3 + (1 : Int32)) h _ _ _ hW hS (lv_sub hl [2, 1, 0] rfl)
        · rw [if_pos c48] at h
          refine lv_iconst (v := (1 : Int32)) hx0 hb dX12_isBuffer_51 (by decide) ?_
          refine lv_goto (tgt := 56) hx0 hb dX12_isBuffer_52 (by decide) ?_
          refine lv_istore_n (lv' := [(2, .int (1 : Int32)), (0, .ref (b + 0)), (3, .int x3)]) hx0 hb dX12_isBuffer_56 rfl hl (by decide) rfl (fun ls hl => ?_)
          refine lv_iinc (v := x3 + (1 : Int32)) (lv' := [(3, .int (x3 + (1 : Int32))), (2, .int (1 : Int32)), (0, .ref (b + 0))]) hx0 hb dX12_isBuffer_57 hl (k := 2) rfl rfl (by decide) rfl (fun ls hl => ?_)
          refine lv_goto (tgt := 24) hx0 hb dX12_isBuffer_60 (by decide) ?_
          exact ih (1 : Int32) (x3 + (1 : Int32)) h _ _ _ hW hS (lv_sub hl [2, 1, 0] rfl)
def fX12_isBuffer_j21 (s0 : Int32) (σ : Mem) : Option ((Int32 × Mem)) :=
  (fX12_isBuffer_l24 FU s0 (0 : Int32) σ).bind fun q24 => if q24.1 = 0 ∨ q24.1 = 1 then some (q24.1, σ) else none
set_option maxRecDepth 100000 in
set_option maxHeartbeats 4000000 in
theorem bX12_isBuffer_j21 {p : Program} {l : Launch} {e : Env} {s : State} {m : MethodId} {args : Array Value} {below : List Frame} {meth : Method} {c : Code} {E : Ev} {b : Nat} (C : Cx p l s m args meth c E cX12_isBuffer 4 RX12 (some .boolean)) (s0 : Int32) {r : (Int32 × Mem)} (σ : Mem) (h : fX12_isBuffer_j21 s0 σ = some r) (H : Heap) (locs : List Loc) (ls : Array Slot) (hW : Wd E (LM E b) σ H) (hS : va_S (La (LM E b)) s.heap H locs) (hl : lv_has ls 4 [(0, .ref (b + 0))]) : W p l e { frames := 7, cells := 0, slots := 0, locals := 234 } s m args below meth c H locs 0 0 (MQ below (Qz E (LM E b) (some (.int r.1)) r.2) args s 0 0 (La (LM E b))) (F0 m 21 ls [.int s0]) := by
  have hx0 := C.1
  have hb := C.2.1
  unfold fX12_isBuffer_j21 at h
  refine lv_istore_n (lv' := [(2, .int s0), (0, .ref (b + 0))]) hx0 hb dX12_isBuffer_21 rfl hl (by decide) rfl (fun ls hl => ?_)
  refine lv_iconst (v := (0 : Int32)) hx0 hb dX12_isBuffer_22 (by decide) ?_
  refine lv_istore_n (lv' := [(3, .int (0 : Int32)), (2, .int s0), (0, .ref (b + 0))]) hx0 hb dX12_isBuffer_23 rfl hl (by decide) rfl (fun ls hl => ?_)
  obtain ⟨q24, h24, h⟩ := bnd h
  try dsimp only at h
  refine bX12_isBuffer_l24 C   σ (q := q24) ?_ FU s0 (0 : Int32) h24 _ _ _ hW hS (lv_sub hl [2, 1, 0] rfl)
  intro H locs ls hW hS hl
  refine lv_iload_n hx0 hb dX12_isBuffer_63 rfl (lv_at hl 1 rfl) ?_
  by_cases z64 : q24.1 = 0 ∨ q24.1 = 1
  case neg => rw [if_neg z64] at h; cases h
  rw [if_pos z64] at h
  cases h
  exact w_zret C hW hS z64 dX12_isBuffer_64
def fX12_isBuffer (x1 : Int32) (σ : Mem) : Option (Int32 × Mem) :=
  (fX12_laysLabel x1 σ).bind fun v2 => if (v2 0 21) = (v2 0 12) then (fX12_isBuffer_j21 (1 : Int32) v2) else (fX12_isBuffer_j21 (0 : Int32) v2)
set_option maxRecDepth 100000 in
set_option maxHeartbeats 4000000 in
theorem mX12_isBuffer {l : Launch} {E : Ev} {b : Nat} (x1 : Int32) (σ : Mem) (r : (Int32 × Mem)) (h : fX12_isBuffer x1 σ = some r) : Met l yX12_isBuffer (tw yX12_isBuffer cX12_isBuffer 4 (some .boolean)) { frames := 7, cells := 0, slots := 0, locals := 234 } (va_Pc [.ref (b + 0), .int x1] (Pr l E (LM E b) σ)) (Qz E (LM E b) (some (.int r.1)) r.2) 0 0 (La (LM E b)) := by
  refine ct_of (by decide) (Nat.le_of_ble_eq_true rfl) ?_
  intro p e s m below meth c C hW hS ls hl
  have hx0 := C.1
  have hb := C.2.1
  have hl : lv_has ls 4 [(0, .ref (b + 0)), (1, .int x1)] := hl
  unfold fX12_isBuffer at h
  refine lv_aload_n hx0 hb dX12_isBuffer_0 rfl (lv_at hl 0 rfl) ?_
  refine lv_iload_n hx0 hb dX12_isBuffer_1 rfl (lv_at hl 1 rfl) ?_
  obtain ⟨v2, h2, h⟩ := bnd h
  try dsimp only at h
  refine w_callV (L := (LM E b)) (k := 0) (As := [.int x1]) (rest := []) C hW hS (show 0 < 18 by decide) cm0 kcX12 (mX12_laysLabel x1  σ v2 h2) cwX12_laysLabel cvX12_laysLabel rfl mlX12_378 ⟨by decide, by decide⟩ rfl hl.1 (Nat.le_of_ble_eq_true rfl) ⟨by decide, by decide⟩ dX12_isBuffer_2 rfl (fun H locs hW hS => ?_)
  refine lv_aload_n hx0 hb dX12_isBuffer_5 rfl (lv_at hl 0 rfl) ?_
  refine gtX12_21 C hW flX12_242 dX12_isBuffer_6 ?_
  refine lv_aload_n hx0 hb dX12_isBuffer_9 rfl (lv_at hl 0 rfl) ?_
  refine gtX12_12 C hW flX12_87 dX12_isBuffer_10 ?_
  refine lv_icmp_ne (tgt := 20) hx0 hb dX12_isBuffer_13 (by decide) (fun c13 => ?_) (fun c13 => ?_)
  · rw [if_neg c13] at h
    refine lv_iconst (v := (0 : Int32)) hx0 hb dX12_isBuffer_20 (by decide) ?_
    exact bX12_isBuffer_j21 C (0 : Int32) v2 h _ _ _ hW hS (lv_sub hl [0] rfl)
  · rw [if_pos c13] at h
    refine lv_iconst (v := (1 : Int32)) hx0 hb dX12_isBuffer_16 (by decide) ?_
    refine lv_goto (tgt := 21) hx0 hb dX12_isBuffer_17 (by decide) ?_
    exact bX12_isBuffer_j21 C (1 : Int32) v2 h _ _ _ hW hS (lv_sub hl [0] rfl)
