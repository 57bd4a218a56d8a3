/-! the reference, by program out of the bytecode -/
def fX12_inversionsNow_l18 (x2 : Int32) : Nat → Int32 → Int32 → Mem → Option (Int32 × Int32)
  | 0, _, _, _ => none
  | n + 1, x1, x3, σ => if x2 ≤ x3 then (some (x1, x3)) else (if x2 < 0 ∨ lm 13 ≤ x2.toNatClampNeg then none else if x3 < 0 ∨ lm 13 ≤ x3.toNatClampNeg then none else if (σ 13 x3.toNatClampNeg) ≤ (σ 13 x2.toNatClampNeg) then (fX12_inversionsNow_l18 x2 n (x1 + (0 : Int32)) (x3 + (1 : Int32)) σ) else (fX12_inversionsNow_l18 x2 n (x1 + (1 : Int32)) (x3 + (1 : Int32)) σ))
set_option maxRecDepth 100000 in
set_option maxHeartbeats 4000000 in
theorem bX12_inversionsNow_l18 {p : Program} {l : Launch} {e : Env} {s : State} {m : MethodId} {args : Array Value} {below : List Frame} {meth : Method} {c : Code} {E : Ev} {b : Nat} (C : Cx p l s m args meth c E cX12_inversionsNow 4 RX12 (some .int)) (x2 : Int32) (σ : Mem) {Qf : State → Prop} {q : Int32 × Int32} (hx : ∀ H locs ls, Wd E (LM E b) σ H → va_S (La (LM E b)) s.heap H locs → lv_has ls 4 [(0, .ref (b + 0)), (1, .int q.1), (2, .int x2), (3, .int q.2)] → W p l e { frames := 4, cells := 0, slots := 0, locals := 90 } s m args below meth c H locs 0 0 Qf (F0 m 52 ls [])) : ∀ (n : Nat) (x1 : Int32) (x3 : Int32), fX12_inversionsNow_l18 x2 n x1 x3 σ = some q → ∀ (H : Heap) (locs : List Loc) (ls : Array Slot), Wd E (LM E b) σ H → va_S (La (LM E b)) s.heap H locs → lv_has ls 4 [(0, .ref (b + 0)), (1, .int x1), (2, .int x2), (3, .int x3)] → W p l e { frames := 4, cells := 0, slots := 0, locals := 90 } s m args below meth c H locs 0 0 Qf (F0 m 18 ls []) := by
  have hx0 := C.1
  have hb := C.2.1
  intro n
  induction n with
  | zero => intro x1 x3 h; simp [fX12_inversionsNow_l18] at h
  | succ n ih =>
    intro x1 x3 h H locs ls hW hS hl
    unfold fX12_inversionsNow_l18 at h
    refine lv_iload_n hx0 hb dX12_inversionsNow_18 rfl (lv_at hl 3 rfl) ?_
    refine lv_iload_n hx0 hb dX12_inversionsNow_19 rfl (lv_at hl 2 rfl) ?_
    refine lv_icmp_ge (tgt := 52) hx0 hb dX12_inversionsNow_20 (by decide) (fun c20 => ?_) (fun c20 => ?_)
    · rw [if_pos c20] at h
      cases h
      exact hx _ _ _ hW hS (lv_sub hl [0, 1, 2, 3] rfl)
    · rw [if_neg c20] at h
      refine lv_iload_n hx0 hb dX12_inversionsNow_23 rfl (lv_at hl 1 rfl) ?_
      refine lv_aload_n hx0 hb dX12_inversionsNow_24 rfl (lv_at hl 0 rfl) ?_
      refine gtX12_24 C hW flX12_51 dX12_inversionsNow_25 ?_
      refine lv_iload_n hx0 hb dX12_inversionsNow_28 rfl (lv_at hl 2 rfl) ?_
      by_cases z29 : x2 < 0 ∨ lm 13 ≤ x2.toNatClampNeg
      · rw [if_pos z29] at h; cases h
      rw [if_neg z29] at h
      refine ldIm (k := 13) C hW (by decide) z29 dX12_inversionsNow_29 ?_
      refine lv_aload_n hx0 hb dX12_inversionsNow_30 rfl (lv_at hl 0 rfl) ?_
      refine gtX12_24 C hW flX12_51 dX12_inversionsNow_31 ?_
      refine lv_iload_n hx0 hb dX12_inversionsNow_34 rfl (lv_at hl 3 rfl) ?_
      by_cases z35 : x3 < 0 ∨ lm 13 ≤ x3.toNatClampNeg
      · rw [if_pos z35] at h; cases h
      rw [if_neg z35] at h
      refine ldIm (k := 13) C hW (by decide) z35 dX12_inversionsNow_35 ?_
      refine lv_icmp_ge (tgt := 43) hx0 hb dX12_inversionsNow_36 (by decide) (fun c36 => ?_) (fun c36 => ?_)
      · rw [if_pos c36] at h
        refine lv_iconst (v := (0 : Int32)) hx0 hb dX12_inversionsNow_43 (by decide) ?_
        refine lv_iadd hx0 hb dX12_inversionsNow_44 ?_
        refine lv_istore_n (lv' := [(1, .int (x1 + (0 : Int32))), (0, .ref (b + 0)), (2, .int x2), (3, .int x3)]) hx0 hb dX12_inversionsNow_45 rfl hl (by decide) rfl (fun ls hl => ?_)
        refine lv_iinc (v := x3 + (1 : Int32)) (lv' := [(3, .int (x3 + (1 : Int32))), (1, .int (x1 + (0 : Int32))), (0, .ref (b + 0)), (2, .int x2)]) hx0 hb dX12_inversionsNow_46 hl (k := 3) rfl rfl (by decide) rfl (fun ls hl => ?_)
        refine lv_goto (tgt := 18) hx0 hb dX12_inversionsNow_49 (by decide) ?_
        exact ih (x1 + (0 : Int32)) (x3 + (1 : Int32)) h _ _ _ hW hS (lv_sub hl [2, 1, 3, 0] rfl)
      · rw [if_neg c36] at h
        refine lv_iconst (v := (1 : Int32)) hx0 hb dX12_inversionsNow_39 (by decide) ?_
        refine lv_goto (tgt := 44) hx0 hb dX12_inversionsNow_40 (by decide) ?_
        refine lv_iadd hx0 hb dX12_inversionsNow_44 ?_
        refine lv_istore_n (lv' := [(1, .int (x1 + (1 : Int32))), (0, .ref (b + 0)), (2, .int x2), (3, .int x3)]) hx0 hb dX12_inversionsNow_45 rfl hl (by decide) rfl (fun ls hl => ?_)
        refine lv_iinc (v := x3 + (1 : Int32)) (lv' := [(3, .int (x3 + (1 : Int32))), (1, .int (x1 + (1 : Int32))), (0, .ref (b + 0)), (2, .int x2)]) hx0 hb dX12_inversionsNow_46 hl (k := 3) rfl rfl (by decide) rfl (fun ls hl => ?_)
        refine lv_goto (tgt := 18) hx0 hb dX12_inversionsNow_49 (by decide) ?_
        exact ih (x1 + (1 : Int32)) (x3 + (1 : Int32)) h _ _ _ hW hS (lv_sub hl [2, 1, 3, 0] rfl)
def fX12_inversionsNow_l8 : Nat → Int32 → Int32 → Mem → Option (Int32 × Int32)
  | 0, _, _, _ => none
  | n + 1, x1, x2, σ => if (σ 0 26) ≤ x2 then (some (x1, x2)) else ((fX12_inversionsNow_l18 x2 FU x1 (0 : Int32) σ).bind fun q18 => fX12_inversionsNow_l8 n q18.1 (x2 + (1 : Int32)) σ)
set_option maxRecDepth 100000 in
set_option maxHeartbeats 4000000 in
theorem bX12_inversionsNow_l8 {p : Program} {l : Launch} {e : Env} {s : State} {m : MethodId} {args : Array Value} {below : List Frame} {meth : Method} {c : Code} {E : Ev} {b : Nat} (C : Cx p l s m args meth c E cX12_inversionsNow 4 RX12 (some .int)) (σ : Mem) {Qf : State → Prop} {q : Int32 × Int32} (hx : ∀ H locs ls, Wd E (LM E b) σ H → va_S (La (LM E b)) s.heap H locs → lv_has ls 4 [(0, .ref (b + 0)), (1, .int q.1), (2, .int q.2)] → W p l e { frames := 4, cells := 0, slots := 0, locals := 90 } s m args below meth c H locs 0 0 Qf (F0 m 58 ls [])) : ∀ (n : Nat) (x1 : Int32) (x2 : Int32), fX12_inversionsNow_l8 n x1 x2 σ = some q → ∀ (H : Heap) (locs : List Loc) (ls : Array Slot), Wd E (LM E b) σ H → va_S (La (LM E b)) s.heap H locs → lv_has ls 4 [(0, .ref (b + 0)), (1, .int x1), (2, .int x2)] → W p l e { frames := 4, cells := 0, slots := 0, locals := 90 } s m args below meth c H locs 0 0 Qf (F0 m 8 ls []) := by
  have hx0 := C.1
  have hb := C.2.1
  intro n
  induction n with
  | zero => intro x1 x2 h; simp [fX12_inversionsNow_l8] at h
  | succ n ih =>
    intro x1 x2 h H locs ls hW hS hl
    unfold fX12_inversionsNow_l8 at h
    refine lv_iload_n hx0 hb dX12_inversionsNow_8 rfl (lv_at hl 2 rfl) ?_
    refine lv_aload_n hx0 hb dX12_inversionsNow_9 rfl (lv_at hl 0 rfl) ?_
    refine gtX12_26 C hW flX12_288 dX12_inversionsNow_10 ?_
    refine lv_icmp_ge (tgt := 58) hx0 hb dX12_inversionsNow_13 (by decide) (fun c13 => ?_) (fun c13 => ?_)
    · rw [if_pos c13] at h
      cases h
      exact hx _ _ _ hW hS (lv_sub hl [0, 1, 2] rfl)
    · rw [if_neg c13] at h
      refine lv_iconst (v := (0 : Int32)) hx0 hb dX12_inversionsNow_16 (by decide) ?_
      refine lv_istore_n (lv' := [(3, .int (0 : Int32)), (0, .ref (b + 0)), (1, .int x1), (2, .int x2)]) hx0 hb dX12_inversionsNow_17 rfl hl (by decide) rfl (fun ls hl => ?_)
      obtain ⟨q18, h18, h⟩ := bnd h
      try dsimp only at h
      refine bX12_inversionsNow_l18 C x2  σ (q := q18) ?_ FU x1 (0 : Int32) h18 _ _ _ hW hS (lv_sub hl [1, 2, 3, 0] rfl)
      intro H locs ls hW hS hl
      refine lv_iinc (v := x2 + (1 : Int32)) (lv' := [(2, .int (x2 + (1 : Int32))), (0, .ref (b + 0)), (1, .int q18.1), (3, .int q18.2)]) hx0 hb dX12_inversionsNow_52 hl (k := 2) rfl rfl (by decide) rfl (fun ls hl => ?_)
      refine lv_goto (tgt := 8) hx0 hb dX12_inversionsNow_55 (by decide) ?_
      exact ih q18.1 (x2 + (1 : Int32)) h _ _ _ hW hS (lv_sub hl [1, 2, 0] rfl)
def fX12_inversionsNow (σ : Mem) : Option (Int32 × Mem) :=
  (fX12_laysRow σ).bind fun v1 => (fX12_inversionsNow_l8 FU (0 : Int32) (0 : Int32) v1).bind fun q8 => some (q8.1, v1)
set_option maxRecDepth 100000 in
set_option maxHeartbeats 4000000 in
theorem mX12_inversionsNow {l : Launch} {E : Ev} {b : Nat} (σ : Mem) (r : (Int32 × Mem)) (h : fX12_inversionsNow σ = some r) : Met l yX12_inversionsNow (tw yX12_inversionsNow cX12_inversionsNow 4 (some .int)) { frames := 4, cells := 0, slots := 0, locals := 90 } (va_Pc [.ref (b + 0)] (Pr l E (LM E b) σ)) (Qz E (LM E b) (some (.int r.1)) r.2) 0 0 (La (LM E b)) := by
  refine ct_of (by decide) (Nat.le_of_ble_eq_true rfl) ?_
  intro p e s m below meth c C hW hS ls hl
  have hx0 := C.1
  have hb := C.2.1
  have hl : lv_has ls 4 [(0, .ref (b + 0))] := hl
  unfold fX12_inversionsNow at h
  refine lv_aload_n hx0 hb dX12_inversionsNow_0 rfl (lv_at hl 0 rfl) ?_
  obtain ⟨v1, h1, h⟩ := bnd h
  try dsimp only at h
  refine w_callV (L := (LM E b)) (k := 0) (As := []) (rest := []) C hW hS (show 0 < 18 by decide) cm0 kcX12 (mX12_laysRow   σ v1 h1) cwX12_laysRow cvX12_laysRow rfl mlX12_294 ⟨by decide, by decide⟩ rfl hl.1 (Nat.le_of_ble_eq_true rfl) ⟨by decide, by decide⟩ dX12_inversionsNow_1 rfl (fun H locs hW hS => ?_)
  refine lv_iconst (v := (0 : Int32)) hx0 hb dX12_inversionsNow_4 (by decide) ?_
  refine lv_istore_n (lv' := [(1, .int (0 : Int32)), (0, .ref (b + 0))]) hx0 hb dX12_inversionsNow_5 rfl hl (by decide) rfl (fun ls hl => ?_)
  refine lv_iconst (v := (0 : Int32)) hx0 hb dX12_inversionsNow_6 (by decide) ?_
  refine lv_istore_n (lv' := [(2, .int (0 : Int32)), (1, .int (0 : Int32)), (0, .ref (b + 0))]) hx0 hb dX12_inversionsNow_7 rfl hl (by decide) rfl (fun ls hl => ?_)
  obtain ⟨q8, h8, h⟩ := bnd h
  try dsimp only at h
  refine bX12_inversionsNow_l8 C   v1 (q := q8) ?_ FU (0 : Int32) (0 : Int32) h8 _ _ _ hW hS (lv_sub hl [2, 1, 0] rfl)
  intro H locs ls hW hS hl
  refine lv_iload_n hx0 hb dX12_inversionsNow_58 rfl (lv_at hl 1 rfl) ?_
  cases h
  exact w_iret C hW hS dX12_inversionsNow_59
def fX12_opensAnew (σ : Mem) : Option Mem :=
  if (3 : Int32) < 0 ∨ lm 3 ≤ (3 : Int32).toNatClampNeg then none else if (4 : Int32) < 0 ∨ lm 3 ≤ (4 : Int32).toNatClampNeg then none else some (up (up σ 3 (3 : Int32).toNatClampNeg (0 : Int32)) 3 (4 : Int32).toNatClampNeg (0 : Int32))
set_option maxRecDepth 100000 in
set_option maxHeartbeats 4000000 in
theorem mX12_opensAnew {l : Launch} {E : Ev} {b : Nat} (σ : Mem) (r : Mem) (h : fX12_opensAnew σ = some r) : Met l yX12_opensAnew (tw yX12_opensAnew cX12_opensAnew 1 none) { frames := 0, cells := 0, slots := 0, locals := 0 } (va_Pc [.ref (b + 0)] (Pr l E (LM E b) σ)) (Qz E (LM E b) none r) 0 0 (La (LM E b)) := by
  refine ct_of (by decide) (Nat.le_of_ble_eq_true rfl) ?_
  intro p e s m below meth c C hW hS ls hl
  have hx0 := C.1
  have hb := C.2.1
  have hl : lv_has ls 1 [(0, .ref (b + 0))] := hl
  unfold fX12_opensAnew at h
  refine lv_aload_n hx0 hb dX12_opensAnew_0 rfl (lv_at hl 0 rfl) ?_
  refine gtX12_5 C hW flX12_20 dX12_opensAnew_1 ?_
  refine lv_iconst (v := (3 : Int32)) hx0 hb dX12_opensAnew_4 (by decide) ?_
  refine lv_iconst (v := (0 : Int32)) hx0 hb dX12_opensAnew_5 (by decide) ?_
  by_cases z6 : (3 : Int32) < 0 ∨ lm 3 ≤ (3 : Int32).toNatClampNeg
  · rw [if_pos z6] at h; cases h
  rw [if_neg z6] at h
  refine saIm (k := 3) C hW hS (by decide) z6 dX12_opensAnew_6 (fun H locs hW hS => ?_)
  refine lv_aload_n hx0 hb dX12_opensAnew_7 rfl (lv_at hl 0 rfl) ?_
  refine gtX12_5 C hW flX12_20 dX12_opensAnew_8 ?_
  refine lv_iconst (v := (4 : Int32)) hx0 hb dX12_opensAnew_11 (by decide) ?_
  refine lv_iconst (v := (0 : Int32)) hx0 hb dX12_opensAnew_12 (by decide) ?_
  by_cases z13 : (4 : Int32) < 0 ∨ lm 3 ≤ (4 : Int32).toNatClampNeg
  · rw [if_pos z13] at h; cases h
  rw [if_neg z13] at h
  refine saIm (k := 3) C hW hS (by decide) z13 dX12_opensAnew_13 (fun H locs hW hS => ?_)
  cases h
  exact w_vret C hW hS dX12_opensAnew_14
def fX12_lose (x1 : Int32) (σ : Mem) : Option (Int32 × Mem) :=
  (fX12_isLeaf x1 (up σ 0 0 (0 : Int32))).bind fun v7 => if v7 = 0 then ((fX12_fails (1 : Int32) (up σ 0 0 (0 : Int32))).bind fun v15 => some (v15.1, v15.2)) else ((fX12_isPresent x1 (up σ 0 0 (0 : Int32))).bind fun v21 => if v21 = 0 then ((fX12_fails (2 : Int32) (up σ 0 0 (0 : Int32))).bind fun v45 => some (v45.1, v45.2)) else ((fX12_allOn x1 (0 : Int32) (up σ 0 0 (0 : Int32))).bind fun v30 => (fX12_allOn x1 (1 : Int32) (up σ 0 0 (0 : Int32))).bind fun v36 => if (v30 + v36) ≤ 0 then ((fX12_remembers (up σ 0 0 (0 : Int32))).bind fun v50 => if ((279 : Int32) + x1) < 0 ∨ lm 3 ≤ ((279 : Int32) + x1).toNatClampNeg then none else (fX12_opensAnew (up v50 3 ((279 : Int32) + x1).toNatClampNeg (1 : Int32))).bind fun v65 => (fX12_present v65).bind fun v69 => some (v69, v65)) else ((fX12_fails (2 : Int32) (up σ 0 0 (0 : Int32))).bind fun v45 => some (v45.1, v45.2))))
set_option maxRecDepth 100000 in
set_option maxHeartbeats 4000000 in
theorem mX12_lose {l : Launch} {E : Ev} {b : Nat} (x1 : Int32) (σ : Mem) (r : (Int32 × Mem)) (h : fX12_lose x1 σ = some r) : Met l yX12_lose (tw yX12_lose cX12_lose 2 (some .int)) { frames := 4, cells := 0, slots := 0, locals := 92 } (va_Pc [.ref (b + 0), .int x1] (Pr l E (LM E b) σ)) (Qz E (LM E b) (some (.int r.1)) r.2) 0 0 (La (LM E b)) := by
  refine ct_of (by decide) (Nat.le_of_ble_eq_true rfl) ?_
  intro p e s m below meth c C hW hS ls hl
  have hx0 := C.1
  have hb := C.2.1
  have hl : lv_has ls 2 [(0, .ref (b + 0)), (1, .int x1)] := hl
  unfold fX12_lose at h
  refine lv_aload_n hx0 hb dX12_lose_0 rfl (lv_at hl 0 rfl) ?_
  refine lv_iconst (v := (0 : Int32)) hx0 hb dX12_lose_1 (by decide) ?_
  refine ptX12_0 C hW hS flX12_3 dX12_lose_2 (fun H locs hW hS => ?_)
  refine lv_aload_n hx0 hb dX12_lose_5 rfl (lv_at hl 0 rfl) ?_
  refine lv_iload_n hx0 hb dX12_lose_6 rfl (lv_at hl 1 rfl) ?_
  obtain ⟨v7, h7, h⟩ := bnd h
  try dsimp only at h
  refine w_callV (L := (LM E b)) (k := 0) (As := [.int x1]) (rest := []) C hW hS (show 0 < 18 by decide) cm0 kcX12 (mX12_isLeaf x1  (up σ 0 0 (0 : Int32)) v7 h7) cwX12_isLeaf cvX12_isLeaf rfl mlX12_297 ⟨by decide, by decide⟩ rfl hl.1 (Nat.le_of_ble_eq_true rfl) ⟨by decide, by decide⟩ dX12_lose_7 rfl (fun H locs hW hS => ?_)
  refine lv_if_ne (tgt := 19) hx0 hb dX12_lose_10 (by decide) (fun c10 => ?_) (fun c10 => ?_)
  · rw [if_neg c10] at h
    refine lv_aload_n hx0 hb dX12_lose_19 rfl (lv_at hl 0 rfl) ?_
    refine lv_iload_n hx0 hb dX12_lose_20 rfl (lv_at hl 1 rfl) ?_
    obtain ⟨v21, h21, h⟩ := bnd h
    try dsimp only at h
    refine w_callV (L := (LM E b)) (k := 0) (As := [.int x1]) (rest := []) C hW hS (show 0 < 18 by decide) cm0 kcX12 (mX12_isPresent x1  (up σ 0 0 (0 : Int32)) v21 h21) cwX12_isPresent cvX12_isPresent rfl mlX12_215 ⟨by decide, by decide⟩ rfl hl.1 (Nat.le_of_ble_eq_true rfl) ⟨by decide, by decide⟩ dX12_lose_21 rfl (fun H locs hW hS => ?_)
    refine lv_if_eq (tgt := 43) hx0 hb dX12_lose_24 (by decide) (fun c24 => ?_) (fun c24 => ?_)
    · rw [if_pos c24] at h
      refine lv_aload_n hx0 hb dX12_lose_43 rfl (lv_at hl 0 rfl) ?_
      refine lv_iconst (v := (2 : Int32)) hx0 hb dX12_lose_44 (by decide) ?_
      obtain ⟨v45, h45, h⟩ := bnd h
      try dsimp only at h
      refine w_callV (L := (LM E b)) (k := 0) (As := [.int (2 : Int32)]) (rest := []) C hW hS (show 0 < 18 by decide) cm0 kcX12 (mX12_fails (2 : Int32)  (up σ 0 0 (0 : Int32)) v45 h45) cwX12_fails cvX12_fails rfl mlX12_94 ⟨by decide, by decide⟩ rfl hl.1 (Nat.le_of_ble_eq_true rfl) ⟨by decide, by decide⟩ dX12_lose_45 rfl (fun H locs hW hS => ?_)
      cases h
      exact w_iret C hW hS dX12_lose_48
    · rw [if_neg c24] at h
      refine lv_aload_n hx0 hb dX12_lose_27 rfl (lv_at hl 0 rfl) ?_
      refine lv_iload_n hx0 hb dX12_lose_28 rfl (lv_at hl 1 rfl) ?_
      refine lv_iconst (v := (0 : Int32)) hx0 hb dX12_lose_29 (by decide) ?_
      obtain ⟨v30, h30, h⟩ := bnd h
      try dsimp only at h
      refine w_callV (L := (LM E b)) (k := 0) (As := [.int x1, .int (0 : Int32)]) (rest := []) C hW hS (show 0 < 18 by decide) cm0 kcX12 (mX12_allOn x1 (0 : Int32)  (up σ 0 0 (0 : Int32)) v30 h30) cwX12_allOn cvX12_allOn rfl mlX12_300 ⟨by decide, by decide⟩ rfl hl.1 (Nat.le_of_ble_eq_true rfl) ⟨by decide, by decide⟩ dX12_lose_30 rfl (fun H locs hW hS => ?_)
      refine lv_aload_n hx0 hb dX12_lose_33 rfl (lv_at hl 0 rfl) ?_
      refine lv_iload_n hx0 hb dX12_lose_34 rfl (lv_at hl 1 rfl) ?_
      refine lv_iconst (v := (1 : Int32)) hx0 hb dX12_lose_35 (by decide) ?_
      obtain ⟨v36, h36, h⟩ := bnd h
      try dsimp only at h
      refine w_callV (L := (LM E b)) (k := 0) (As := [.int x1, .int (1 : Int32)]) (rest := [.int v30]) C hW hS (show 0 < 18 by decide) cm0 kcX12 (mX12_allOn x1 (1 : Int32)  (up σ 0 0 (0 : Int32)) v36 h36) cwX12_allOn cvX12_allOn rfl mlX12_300 ⟨by decide, by decide⟩ rfl hl.1 (Nat.le_of_ble_eq_true rfl) ⟨by decide, by decide⟩ dX12_lose_36 rfl (fun H locs hW hS => ?_)
      refine lv_iadd hx0 hb dX12_lose_39 ?_
      refine lv_if_le (tgt := 49) hx0 hb dX12_lose_40 (by decide) (fun c40 => ?_) (fun c40 => ?_)
      · rw [if_pos c40] at h
        refine lv_aload_n hx0 hb dX12_lose_49 rfl (lv_at hl 0 rfl) ?_
        obtain ⟨v50, h50, h⟩ := bnd h
        try dsimp only at h
        refine w_callV (L := (LM E b)) (k := 0) (As := []) (rest := []) C hW hS (show 0 < 18 by decide) cm0 kcX12 (mX12_remembers   (up σ 0 0 (0 : Int32)) v50 h50) cwX12_remembers cvX12_remembers rfl mlX12_285 ⟨by decide, by decide⟩ rfl hl.1 (Nat.le_of_ble_eq_true rfl) ⟨by decide, by decide⟩ dX12_lose_50 rfl (fun H locs hW hS => ?_)
        refine lv_aload_n hx0 hb dX12_lose_53 rfl (lv_at hl 0 rfl) ?_
        refine gtX12_5 C hW flX12_20 dX12_lose_54 ?_
        refine lv_sipush (v := (279 : Int32)) hx0 hb dX12_lose_57 (by decide) ?_
        refine lv_iload_n hx0 hb dX12_lose_60 rfl (lv_at hl 1 rfl) ?_
        refine lv_iadd hx0 hb dX12_lose_61 ?_
        refine lv_iconst (v := (1 : Int32)) hx0 hb dX12_lose_62 (by decide) ?_
        by_cases z63 : ((279 : Int32) + x1) < 0 ∨ lm 3 ≤ ((279 : Int32) + x1).toNatClampNeg
        · rw [if_pos z63] at h; cases h
        rw [if_neg z63] at h
        refine saIm (k := 3) C hW hS (by decide) z63 dX12_lose_63 (fun H locs hW hS => ?_)
        refine lv_aload_n hx0 hb dX12_lose_64 rfl (lv_at hl 0 rfl) ?_
        obtain ⟨v65, h65, h⟩ := bnd h
        try dsimp only at h
        refine w_callV (L := (LM E b)) (k := 0) (As := []) (rest := []) C hW hS (show 0 < 18 by decide) cm0 kcX12 (mX12_opensAnew   (up v50 3 ((279 : Int32) + x1).toNatClampNeg (1 : Int32)) v65 h65) cwX12_opensAnew cvX12_opensAnew rfl mlX12_303 ⟨by decide, by decide⟩ rfl hl.1 (Nat.le_of_ble_eq_true rfl) ⟨by decide, by decide⟩ dX12_lose_65 rfl (fun H locs hW hS => ?_)
        refine lv_aload_n hx0 hb dX12_lose_68 rfl (lv_at hl 0 rfl) ?_
        obtain ⟨v69, h69, h⟩ := bnd h
        try dsimp only at h
        refine w_callV (L := (LM E b)) (k := 0) (As := []) (rest := []) C hW hS (show 0 < 18 by decide) cm0 kcX12 (mX12_present   v65 v69 h69) cwX12_present cvX12_present rfl mlX12_306 ⟨by decide, by decide⟩ rfl hl.1 (Nat.le_of_ble_eq_true rfl) ⟨by decide, by decide⟩ dX12_lose_69 rfl (fun H locs hW hS => ?_)
        cases h
        exact w_iret C hW hS dX12_lose_72
      · rw [if_neg c40] at h
        refine lv_aload_n hx0 hb dX12_lose_43 rfl (lv_at hl 0 rfl) ?_
        refine lv_iconst (v := (2 : Int32)) hx0 hb dX12_lose_44 (by decide) ?_
        obtain ⟨v45, h45, h⟩ := bnd h
        try dsimp only at h
        refine w_callV (L := (LM E b)) (k := 0) (As := [.int (2 : Int32)]) (rest := []) C hW hS (show 0 < 18 by decide) cm0 kcX12 (mX12_fails (2 : Int32)  (up σ 0 0 (0 : Int32)) v45 h45) cwX12_fails cvX12_fails rfl mlX12_94 ⟨by decide, by decide⟩ rfl hl.1 (Nat.le_of_ble_eq_true rfl) ⟨by decide, by decide⟩ dX12_lose_45 rfl (fun H locs hW hS => ?_)
        cases h
        exact w_iret C hW hS dX12_lose_48
  · rw [if_pos c10] at h
    refine lv_aload_n hx0 hb dX12_lose_13 rfl (lv_at hl 0 rfl) ?_
    refine lv_iconst (v := (1 : Int32)) hx0 hb dX12_lose_14 (by decide) ?_
    obtain ⟨v15, h15, h⟩ := bnd h
    try dsimp only at h
    refine w_callV (L := (LM E b)) (k := 0) (As := [.int (1 : Int32)]) (rest := []) C hW hS (show 0 < 18 by decide) cm0 kcX12 (mX12_fails (1 : Int32)  (up σ 0 0 (0 : Int32)) v15 h15) cwX12_fails cvX12_fails rfl mlX12_94 ⟨by decide, by decide⟩ rfl hl.1 (Nat.le_of_ble_eq_true rfl) ⟨by decide, by decide⟩ dX12_lose_15 rfl (fun H locs hW hS => ?_)
    cases h
    exact w_iret C hW hS dX12_lose_18
def fX12_find (x1 : Int32) (σ : Mem) : Option (Int32 × Mem) :=
  (fX12_isLeaf x1 (up σ 0 0 (0 : Int32))).bind fun v7 => if v7 = 0 then ((fX12_fails (1 : Int32) (up σ 0 0 (0 : Int32))).bind fun v15 => some (v15.1, v15.2)) else ((fX12_isPresent x1 (up σ 0 0 (0 : Int32))).bind fun v21 => if v21 = 0 then ((fX12_remembers (up σ 0 0 (0 : Int32))).bind fun v34 => if ((279 : Int32) + x1) < 0 ∨ lm 3 ≤ ((279 : Int32) + x1).toNatClampNeg then none else (fX12_opensAnew (up v34 3 ((279 : Int32) + x1).toNatClampNeg (0 : Int32))).bind fun v49 => (fX12_present v49).bind fun v53 => some (v53, v49)) else ((fX12_fails (2 : Int32) (up σ 0 0 (0 : Int32))).bind fun v29 => some (v29.1, v29.2)))
set_option maxRecDepth 100000 in
set_option maxHeartbeats 4000000 in
theorem mX12_find {l : Launch} {E : Ev} {b : Nat} (x1 : Int32) (σ : Mem) (r : (Int32 × Mem)) (h : fX12_find x1 σ = some r) : Met l yX12_find (tw yX12_find cX12_find 2 (some .int)) { frames := 2, cells := 0, slots := 0, locals := 46 } (va_Pc [.ref (b + 0), .int x1] (Pr l E (LM E b) σ)) (Qz E (LM E b) (some (.int r.1)) r.2) 0 0 (La (LM E b)) := by
  refine ct_of (by decide) (Nat.le_of_ble_eq_true rfl) ?_
  intro p e s m below meth c C hW hS ls hl
  have hx0 := C.1
  have hb := C.2.1
  have hl : lv_has ls 2 [(0, .ref (b + 0)), (1, .int x1)] := hl
  unfold fX12_find at h
  refine lv_aload_n hx0 hb dX12_find_0 rfl (lv_at hl 0 rfl) ?_
  refine lv_iconst (v := (0 : Int32)) hx0 hb dX12_find_1 (by decide) ?_
  refine ptX12_0 C hW hS flX12_3 dX12_find_2 (fun H locs hW hS => ?_)
  refine lv_aload_n hx0 hb dX12_find_5 rfl (lv_at hl 0 rfl) ?_
  refine lv_iload_n hx0 hb dX12_find_6 rfl (lv_at hl 1 rfl) ?_
  obtain ⟨v7, h7, h⟩ := bnd h
  try dsimp only at h
  refine w_callV (L := (LM E b)) (k := 0) (As := [.int x1]) (rest := []) C hW hS (show 0 < 18 by decide) cm0 kcX12 (mX12_isLeaf x1  (up σ 0 0 (0 : Int32)) v7 h7) cwX12_isLeaf cvX12_isLeaf rfl mlX12_297 ⟨by decide, by decide⟩ rfl hl.1 (Nat.le_of_ble_eq_true rfl) ⟨by decide, by decide⟩ dX12_find_7 rfl (fun H locs hW hS => ?_)
  refine lv_if_ne (tgt := 19) hx0 hb dX12_find_10 (by decide) (fun c10 => ?_) (fun c10 => ?_)
  · rw [if_neg c10] at h
    refine lv_aload_n hx0 hb dX12_find_19 rfl (lv_at hl 0 rfl) ?_
    refine lv_iload_n hx0 hb dX12_find_20 rfl (lv_at hl 1 rfl) ?_
    obtain ⟨v21, h21, h⟩ := bnd h
    try dsimp only at h
    refine w_callV (L := (LM E b)) (k := 0) (As := [.int x1]) (rest := []) C hW hS (show 0 < 18 by decide) cm0 kcX12 (mX12_isPresent x1  (up σ 0 0 (0 : Int32)) v21 h21) cwX12_isPresent cvX12_isPresent rfl mlX12_215 ⟨by decide, by decide⟩ rfl hl.1 (Nat.le_of_ble_eq_true rfl) ⟨by decide, by decide⟩ dX12_find_21 rfl (fun H locs hW hS => ?_)
    refine lv_if_eq (tgt := 33) hx0 hb dX12_find_24 (by decide) (fun c24 => ?_) (fun c24 => ?_)
    · rw [if_pos c24] at h
      refine lv_aload_n hx0 hb dX12_find_33 rfl (lv_at hl 0 rfl) ?_
      obtain ⟨v34, h34, h⟩ := bnd h
      try dsimp only at h
      refine w_callV (L := (LM E b)) (k := 0) (As := []) (rest := []) C hW hS (show 0 < 18 by decide) cm0 kcX12 (mX12_remembers   (up σ 0 0 (0 : Int32)) v34 h34) cwX12_remembers cvX12_remembers rfl mlX12_285 ⟨by decide, by decide⟩ rfl hl.1 (Nat.le_of_ble_eq_true rfl) ⟨by decide, by decide⟩ dX12_find_34 rfl (fun H locs hW hS => ?_)
      refine lv_aload_n hx0 hb dX12_find_37 rfl (lv_at hl 0 rfl) ?_
      refine gtX12_5 C hW flX12_20 dX12_find_38 ?_
      refine lv_sipush (v := (279 : Int32)) hx0 hb dX12_find_41 (by decide) ?_
      refine lv_iload_n hx0 hb dX12_find_44 rfl (lv_at hl 1 rfl) ?_
      refine lv_iadd hx0 hb dX12_find_45 ?_
      refine lv_iconst (v := (0 : Int32)) hx0 hb dX12_find_46 (by decide) ?_
      by_cases z47 : ((279 : Int32) + x1) < 0 ∨ lm 3 ≤ ((279 : Int32) + x1).toNatClampNeg
      · rw [if_pos z47] at h; cases h
      rw [if_neg z47] at h
      refine saIm (k := 3) C hW hS (by decide) z47 dX12_find_47 (fun H locs hW hS => ?_)
      refine lv_aload_n hx0 hb dX12_find_48 rfl (lv_at hl 0 rfl) ?_
      obtain ⟨v49, h49, h⟩ := bnd h
      try dsimp only at h
      refine w_callV (L := (LM E b)) (k := 0) (As := []) (rest := []) C hW hS (show 0 < 18 by decide) cm0 kcX12 (mX12_opensAnew   (up v34 3 ((279 : Int32) + x1).toNatClampNeg (0 : Int32)) v49 h49) cwX12_opensAnew cvX12_opensAnew rfl mlX12_303 ⟨by decide, by decide⟩ rfl hl.1 (Nat.le_of_ble_eq_true rfl) ⟨by decide, by decide⟩ dX12_find_49 rfl (fun H locs hW hS => ?_)
      refine lv_aload_n hx0 hb dX12_find_52 rfl (lv_at hl 0 rfl) ?_
      obtain ⟨v53, h53, h⟩ := bnd h
      try dsimp only at h
      refine w_callV (L := (LM E b)) (k := 0) (As := []) (rest := []) C hW hS (show 0 < 18 by decide) cm0 kcX12 (mX12_present   v49 v53 h53) cwX12_present cvX12_present rfl mlX12_306 ⟨by decide, by decide⟩ rfl hl.1 (Nat.le_of_ble_eq_true rfl) ⟨by decide, by decide⟩ dX12_find_53 rfl (fun H locs hW hS => ?_)
      cases h
      exact w_iret C hW hS dX12_find_56
    · rw [if_neg c24] at h
      refine lv_aload_n hx0 hb dX12_find_27 rfl (lv_at hl 0 rfl) ?_
      refine lv_iconst (v := (2 : Int32)) hx0 hb dX12_find_28 (by decide) ?_
      obtain ⟨v29, h29, h⟩ := bnd h
      try dsimp only at h
      refine w_callV (L := (LM E b)) (k := 0) (As := [.int (2 : Int32)]) (rest := []) C hW hS (show 0 < 18 by decide) cm0 kcX12 (mX12_fails (2 : Int32)  (up σ 0 0 (0 : Int32)) v29 h29) cwX12_fails cvX12_fails rfl mlX12_94 ⟨by decide, by decide⟩ rfl hl.1 (Nat.le_of_ble_eq_true rfl) ⟨by decide, by decide⟩ dX12_find_29 rfl (fun H locs hW hS => ?_)
      cases h
      exact w_iret C hW hS dX12_find_32
  · rw [if_pos c10] at h
    refine lv_aload_n hx0 hb dX12_find_13 rfl (lv_at hl 0 rfl) ?_
    refine lv_iconst (v := (1 : Int32)) hx0 hb dX12_find_14 (by decide) ?_
    obtain ⟨v15, h15, h⟩ := bnd h
    try dsimp only at h
    refine w_callV (L := (LM E b)) (k := 0) (As := [.int (1 : Int32)]) (rest := []) C hW hS (show 0 < 18 by decide) cm0 kcX12 (mX12_fails (1 : Int32)  (up σ 0 0 (0 : Int32)) v15 h15) cwX12_fails cvX12_fails rfl mlX12_94 ⟨by decide, by decide⟩ rfl hl.1 (Nat.le_of_ble_eq_true rfl) ⟨by decide, by decide⟩ dX12_find_15 rfl (fun H locs hW hS => ?_)
    cases h
    exact w_iret C hW hS dX12_find_18
def fX12_attach (x1 : Int32) (x2 : Int32) (x3 : Int32) (σ : Mem) : Option (Int32 × Mem) :=
  (fX12_isLeaf x1 (up σ 0 0 (0 : Int32))).bind fun v7 => if v7 = 0 then ((fX12_fails (1 : Int32) (up σ 0 0 (0 : Int32))).bind fun v15 => some (v15.1, v15.2)) else ((fX12_isSide x2 (up σ 0 0 (0 : Int32))).bind fun v20 => if v20 = 0 then ((fX12_fails (2 : Int32) (up σ 0 0 (0 : Int32))).bind fun v40 => some (v40.1, v40.2)) else ((fX12_isIn x3.toInt64 (1 : Int64) (2 : Int64) (up σ 0 0 (0 : Int32))).bind fun v32 => if v32 = 0 then ((fX12_fails (2 : Int32) (up σ 0 0 (0 : Int32))).bind fun v40 => some (v40.1, v40.2)) else ((fX12_isPresent x1 (up σ 0 0 (0 : Int32))).bind fun v46 => if v46 = 0 then ((fX12_fails (3 : Int32) (up σ 0 0 (0 : Int32))).bind fun v65 => some (v65.1, v65.2)) else (if (0 : Int32) < 0 ∨ lm 3 ≤ (0 : Int32).toNatClampNeg then none else if ((up σ 0 0 (0 : Int32)) 3 (0 : Int32).toNatClampNeg) = (12 : Int32) then ((fX12_fails (3 : Int32) (up σ 0 0 (0 : Int32))).bind fun v65 => some (v65.1, v65.2)) else ((fX12_remembers (up σ 0 0 (0 : Int32))).bind fun v70 => if (0 : Int32) < 0 ∨ lm 3 ≤ (0 : Int32).toNatClampNeg then none else if ((5 : Int32) + ((3 : Int32) * (v70 3 (0 : Int32).toNatClampNeg))) < 0 ∨ lm 3 ≤ ((5 : Int32) + ((3 : Int32) * (v70 3 (0 : Int32).toNatClampNeg))).toNatClampNeg then none else if (((5 : Int32) + ((3 : Int32) * (v70 3 (0 : Int32).toNatClampNeg))) + (1 : Int32)) < 0 ∨ lm 3 ≤ (((5 : Int32) + ((3 : Int32) * (v70 3 (0 : Int32).toNatClampNeg))) + (1 : Int32)).toNatClampNeg then none else if (((5 : Int32) + ((3 : Int32) * (v70 3 (0 : Int32).toNatClampNeg))) + (2 : Int32)) < 0 ∨ lm 3 ≤ (((5 : Int32) + ((3 : Int32) * (v70 3 (0 : Int32).toNatClampNeg))) + (2 : Int32)).toNatClampNeg then none else if (0 : Int32) < 0 ∨ lm 3 ≤ (0 : Int32).toNatClampNeg then none else if (0 : Int32) < 0 ∨ lm 3 ≤ (0 : Int32).toNatClampNeg then none else if (0 : Int32) < 0 ∨ lm 3 ≤ (0 : Int32).toNatClampNeg then none else some (((up (up (up (up v70 3 ((5 : Int32) + ((3 : Int32) * (v70 3 (0 : Int32).toNatClampNeg))).toNatClampNeg x1) 3 (((5 : Int32) + ((3 : Int32) * (v70 3 (0 : Int32).toNatClampNeg))) + (1 : Int32)).toNatClampNeg x2) 3 (((5 : Int32) + ((3 : Int32) * (v70 3 (0 : Int32).toNatClampNeg))) + (2 : Int32)).toNatClampNeg x3) 3 (0 : Int32).toNatClampNeg (((up (up (up v70 3 ((5 : Int32) + ((3 : Int32) * (v70 3 (0 : Int32).toNatClampNeg))).toNatClampNeg x1) 3 (((5 : Int32) + ((3 : Int32) * (v70 3 (0 : Int32).toNatClampNeg))) + (1 : Int32)).toNatClampNeg x2) 3 (((5 : Int32) + ((3 : Int32) * (v70 3 (0 : Int32).toNatClampNeg))) + (2 : Int32)).toNatClampNeg x3) 3 (0 : Int32).toNatClampNeg) + (1 : Int32))) 3 (0 : Int32).toNatClampNeg) - (1 : Int32), up (up (up (up v70 3 ((5 : Int32) + ((3 : Int32) * (v70 3 (0 : Int32).toNatClampNeg))).toNatClampNeg x1) 3 (((5 : Int32) + ((3 : Int32) * (v70 3 (0 : Int32).toNatClampNeg))) + (1 : Int32)).toNatClampNeg x2) 3 (((5 : Int32) + ((3 : Int32) * (v70 3 (0 : Int32).toNatClampNeg))) + (2 : Int32)).toNatClampNeg x3) 3 (0 : Int32).toNatClampNeg (((up (up (up v70 3 ((5 : Int32) + ((3 : Int32) * (v70 3 (0 : Int32).toNatClampNeg))).toNatClampNeg x1) 3 (((5 : Int32) + ((3 : Int32) * (v70 3 (0 : Int32).toNatClampNeg))) + (1 : Int32)).toNatClampNeg x2) 3 (((5 : Int32) + ((3 : Int32) * (v70 3 (0 : Int32).toNatClampNeg))) + (2 : Int32)).toNatClampNeg x3) 3 (0 : Int32).toNatClampNeg) + (1 : Int32))))))))
set_option maxRecDepth 100000 in
set_option maxHeartbeats 4000000 in
theorem mX12_attach {l : Launch} {E : Ev} {b : Nat} (x1 : Int32) (x2 : Int32) (x3 : Int32) (σ : Mem) (r : (Int32 × Mem)) (h : fX12_attach x1 x2 x3 σ = some r) : Met l yX12_attach (tw yX12_attach cX12_attach 5 (some .int)) { frames := 2, cells := 0, slots := 0, locals := 46 } (va_Pc [.ref (b + 0), .int x1, .int x2, .int x3] (Pr l E (LM E b) σ)) (Qz E (LM E b) (some (.int r.1)) r.2) 0 0 (La (LM E b)) := by
  refine ct_of (by decide) (Nat.le_of_ble_eq_true rfl) ?_
  intro p e s m below meth c C hW hS ls hl
  have hx0 := C.1
  have hb := C.2.1
  have hl : lv_has ls 5 [(0, .ref (b + 0)), (1, .int x1), (2, .int x2), (3, .int x3)] := hl
  unfold fX12_attach at h
  refine lv_aload_n hx0 hb dX12_attach_0 rfl (lv_at hl 0 rfl) ?_
  refine lv_iconst (v := (0 : Int32)) hx0 hb dX12_attach_1 (by decide) ?_
  refine ptX12_0 C hW hS flX12_3 dX12_attach_2 (fun H locs hW hS => ?_)
  refine lv_aload_n hx0 hb dX12_attach_5 rfl (lv_at hl 0 rfl) ?_
  refine lv_iload_n hx0 hb dX12_attach_6 rfl (lv_at hl 1 rfl) ?_
  obtain ⟨v7, h7, h⟩ := bnd h
  try dsimp only at h
  refine w_callV (L := (LM E b)) (k := 0) (As := [.int x1]) (rest := []) C hW hS (show 0 < 18 by decide) cm0 kcX12 (mX12_isLeaf x1  (up σ 0 0 (0 : Int32)) v7 h7) cwX12_isLeaf cvX12_isLeaf rfl mlX12_297 ⟨by decide, by decide⟩ rfl hl.1 (Nat.le_of_ble_eq_true rfl) ⟨by decide, by decide⟩ dX12_attach_7 rfl (fun H locs hW hS => ?_)
  refine lv_if_ne (tgt := 19) hx0 hb dX12_attach_10 (by decide) (fun c10 => ?_) (fun c10 => ?_)
  · rw [if_neg c10] at h
    refine lv_iload_n hx0 hb dX12_attach_19 rfl (lv_at hl 2 rfl) ?_
    obtain ⟨v20, h20, h⟩ := bnd h
    try dsimp only at h
    refine w_callS (L := (LM E b)) (As := [.int x2]) (rest := []) C hW hS (mX12_isSide x2  (up σ 0 0 (0 : Int32)) v20 h20) cwX12_isSide csX12_isSide mlX12_309 ⟨by decide, by decide⟩ rfl hl.1 (Nat.le_of_ble_eq_true rfl) ⟨by decide, by decide⟩ dX12_attach_20 rfl (fun H locs hW hS => ?_)
    refine lv_if_eq (tgt := 38) hx0 hb dX12_attach_23 (by decide) (fun c23 => ?_) (fun c23 => ?_)
    · rw [if_pos c23] at h
      refine lv_aload_n hx0 hb dX12_attach_38 rfl (lv_at hl 0 rfl) ?_
      refine lv_iconst (v := (2 : Int32)) hx0 hb dX12_attach_39 (by decide) ?_
      obtain ⟨v40, h40, h⟩ := bnd h
      try dsimp only at h
      refine w_callV (L := (LM E b)) (k := 0) (As := [.int (2 : Int32)]) (rest := []) C hW hS (show 0 < 18 by decide) cm0 kcX12 (mX12_fails (2 : Int32)  (up σ 0 0 (0 : Int32)) v40 h40) cwX12_fails cvX12_fails rfl mlX12_94 ⟨by decide, by decide⟩ rfl hl.1 (Nat.le_of_ble_eq_true rfl) ⟨by decide, by decide⟩ dX12_attach_40 rfl (fun H locs hW hS => ?_)
      cases h
      exact w_iret C hW hS dX12_attach_43
    · rw [if_neg c23] at h
      refine lv_iload_n hx0 hb dX12_attach_26 rfl (lv_at hl 3 rfl) ?_
      refine lv_i2l hx0 hb dX12_attach_27 rfl ?_
      refine lv_lconst (v := (1 : Int64)) hx0 hb dX12_attach_28 (by decide) ?_
      refine lv_ldc2 hx0 hb C.2.2.2.1 (C.2.2.2.2.1 _ klX12_312) dX12_attach_29 ?_
      obtain ⟨v32, h32, h⟩ := bnd h
      try dsimp only at h
      refine w_callS (L := (LM E b)) (As := [.long x3.toInt64, .long (1 : Int64), .long (2 : Int64)]) (rest := []) C hW hS (mX12_isIn x3.toInt64 (1 : Int64) (2 : Int64)  (up σ 0 0 (0 : Int32)) v32 h32) cwX12_isIn csX12_isIn mlX12_101 ⟨by decide, by decide⟩ rfl hl.1 (Nat.le_of_ble_eq_true rfl) ⟨by decide, by decide⟩ dX12_attach_32 rfl (fun H locs hW hS => ?_)
      refine lv_if_ne (tgt := 44) hx0 hb dX12_attach_35 (by decide) (fun c35 => ?_) (fun c35 => ?_)
      · rw [if_neg c35] at h
        refine lv_aload_n hx0 hb dX12_attach_44 rfl (lv_at hl 0 rfl) ?_
        refine lv_iload_n hx0 hb dX12_attach_45 rfl (lv_at hl 1 rfl) ?_
        obtain ⟨v46, h46, h⟩ := bnd h
        try dsimp only at h
        refine w_callV (L := (LM E b)) (k := 0) (As := [.int x1]) (rest := []) C hW hS (show 0 < 18 by decide) cm0 kcX12 (mX12_isPresent x1  (up σ 0 0 (0 : Int32)) v46 h46) cwX12_isPresent cvX12_isPresent rfl mlX12_215 ⟨by decide, by decide⟩ rfl hl.1 (Nat.le_of_ble_eq_true rfl) ⟨by decide, by decide⟩ dX12_attach_46 rfl (fun H locs hW hS => ?_)
        refine lv_if_eq (tgt := 63) hx0 hb dX12_attach_49 (by decide) (fun c49 => ?_) (fun c49 => ?_)
        · rw [if_pos c49] at h
          refine lv_aload_n hx0 hb dX12_attach_63 rfl (lv_at hl 0 rfl) ?_
          refine lv_iconst (v := (3 : Int32)) hx0 hb dX12_attach_64 (by decide) ?_
          obtain ⟨v65, h65, h⟩ := bnd h
          try dsimp only at h
          refine w_callV (L := (LM E b)) (k := 0) (As := [.int (3 : Int32)]) (rest := []) C hW hS (show 0 < 18 by decide) cm0 kcX12 (mX12_fails (3 : Int32)  (up σ 0 0 (0 : Int32)) v65 h65) cwX12_fails cvX12_fails rfl mlX12_94 ⟨by decide, by decide⟩ rfl hl.1 (Nat.le_of_ble_eq_true rfl) ⟨by decide, by decide⟩ dX12_attach_65 rfl (fun H locs hW hS => ?_)
          cases h
          exact w_iret C hW hS dX12_attach_68
        · rw [if_neg c49] at h
          refine lv_aload_n hx0 hb dX12_attach_52 rfl (lv_at hl 0 rfl) ?_
          refine gtX12_5 C hW flX12_20 dX12_attach_53 ?_
          refine lv_iconst (v := (0 : Int32)) hx0 hb dX12_attach_56 (by decide) ?_
          by_cases z57 : (0 : Int32) < 0 ∨ lm 3 ≤ (0 : Int32).toNatClampNeg
          · rw [if_pos z57] at h; cases h
          rw [if_neg z57] at h
          refine ldIm (k := 3) C hW (by decide) z57 dX12_attach_57 ?_
          refine lv_bipush (v := (12 : Int32)) hx0 hb dX12_attach_58 (by decide) ?_
          refine lv_icmp_ne (tgt := 69) hx0 hb dX12_attach_60 (by decide) (fun c60 => ?_) (fun c60 => ?_)
          · rw [if_neg c60] at h
            refine lv_aload_n hx0 hb dX12_attach_69 rfl (lv_at hl 0 rfl) ?_
            obtain ⟨v70, h70, h⟩ := bnd h
            try dsimp only at h
            refine w_callV (L := (LM E b)) (k := 0) (As := []) (rest := []) C hW hS (show 0 < 18 by decide) cm0 kcX12 (mX12_remembers   (up σ 0 0 (0 : Int32)) v70 h70) cwX12_remembers cvX12_remembers rfl mlX12_285 ⟨by decide, by decide⟩ rfl hl.1 (Nat.le_of_ble_eq_true rfl) ⟨by decide, by decide⟩ dX12_attach_70 rfl (fun H locs hW hS => ?_)
            refine lv_iconst (v := (5 : Int32)) hx0 hb dX12_attach_73 (by decide) ?_
            refine lv_iconst (v := (3 : Int32)) hx0 hb dX12_attach_74 (by decide) ?_
            refine lv_aload_n hx0 hb dX12_attach_75 rfl (lv_at hl 0 rfl) ?_
            refine gtX12_5 C hW flX12_20 dX12_attach_76 ?_
            refine lv_iconst (v := (0 : Int32)) hx0 hb dX12_attach_79 (by decide) ?_
            by_cases z80 : (0 : Int32) < 0 ∨ lm 3 ≤ (0 : Int32).toNatClampNeg
            · rw [if_pos z80] at h; cases h
            rw [if_neg z80] at h
            refine ldIm (k := 3) C hW (by decide) z80 dX12_attach_80 ?_
            refine lv_imul hx0 hb dX12_attach_81 ?_
            refine lv_iadd hx0 hb dX12_attach_82 ?_
            refine lv_istore (lv' := [(4, .int ((5 : Int32) + ((3 : Int32) * (v70 3 (0 : Int32).toNatClampNeg)))), (0, .ref (b + 0)), (1, .int x1), (2, .int x2), (3, .int x3)]) hx0 hb dX12_attach_83 hl (by decide) rfl (fun ls hl => ?_)
            refine lv_aload_n hx0 hb dX12_attach_85 rfl (lv_at hl 1 rfl) ?_
            refine gtX12_5 C hW flX12_20 dX12_attach_86 ?_
            refine lv_iload hx0 hb dX12_attach_89 (lv_at hl 0 rfl) ?_
            refine lv_iload_n hx0 hb dX12_attach_91 rfl (lv_at hl 2 rfl) ?_
            by_cases z92 : ((5 : Int32) + ((3 : Int32) * (v70 3 (0 : Int32).toNatClampNeg))) < 0 ∨ lm 3 ≤ ((5 : Int32) + ((3 : Int32) * (v70 3 (0 : Int32).toNatClampNeg))).toNatClampNeg
            · rw [if_pos z92] at h; cases h
            rw [if_neg z92] at h
            refine saIm (k := 3) C hW hS (by decide) z92 dX12_attach_92 (fun H locs hW hS => ?_)
            refine lv_aload_n hx0 hb dX12_attach_93 rfl (lv_at hl 1 rfl) ?_
            refine gtX12_5 C hW flX12_20 dX12_attach_94 ?_
            refine lv_iload hx0 hb dX12_attach_97 (lv_at hl 0 rfl) ?_
            refine lv_iconst (v := (1 : Int32)) hx0 hb dX12_attach_99 (by decide) ?_
            refine lv_iadd hx0 hb dX12_attach_100 ?_
            refine lv_iload_n hx0 hb dX12_attach_101 rfl (lv_at hl 3 rfl) ?_
            by_cases z102 : (((5 : Int32) + ((3 : Int32) * (v70 3 (0 : Int32).toNatClampNeg))) + (1 : Int32)) < 0 ∨ lm 3 ≤ (((5 : Int32) + ((3 : Int32) * (v70 3 (0 : Int32).toNatClampNeg))) + (1 : Int32)).toNatClampNeg
            · rw [if_pos z102] at h; cases h
            rw [if_neg z102] at h
            refine saIm (k := 3) C hW hS (by decide) z102 dX12_attach_102 (fun H locs hW hS => ?_)
            refine lv_aload_n hx0 hb dX12_attach_103 rfl (lv_at hl 1 rfl) ?_
            refine gtX12_5 C hW flX12_20 dX12_attach_104 ?_
            refine lv_iload hx0 hb dX12_attach_107 (lv_at hl 0 rfl) ?_
            refine lv_iconst (v := (2 : Int32)) hx0 hb dX12_attach_109 (by decide) ?_
            refine lv_iadd hx0 hb dX12_attach_110 ?_
            refine lv_iload_n hx0 hb dX12_attach_111 rfl (lv_at hl 4 rfl) ?_
            by_cases z112 : (((5 : Int32) + ((3 : Int32) * (v70 3 (0 : Int32).toNatClampNeg))) + (2 : Int32)) < 0 ∨ lm 3 ≤ (((5 : Int32) + ((3 : Int32) * (v70 3 (0 : Int32).toNatClampNeg))) + (2 : Int32)).toNatClampNeg
            · rw [if_pos z112] at h; cases h
            rw [if_neg z112] at h
            refine saIm (k := 3) C hW hS (by decide) z112 dX12_attach_112 (fun H locs hW hS => ?_)
            refine lv_aload_n hx0 hb dX12_attach_113 rfl (lv_at hl 1 rfl) ?_
            refine gtX12_5 C hW flX12_20 dX12_attach_114 ?_
            refine lv_iconst (v := (0 : Int32)) hx0 hb dX12_attach_117 (by decide) ?_
            refine lv_dup2_11 hx0 hb dX12_attach_118 rfl rfl ?_
            by_cases z119 : (0 : Int32) < 0 ∨ lm 3 ≤ (0 : Int32).toNatClampNeg
            · rw [if_pos z119] at h; cases h
            rw [if_neg z119] at h
            refine ldIm (k := 3) C hW (by decide) z119 dX12_attach_119 ?_
            refine lv_iconst (v := (1 : Int32)) hx0 hb dX12_attach_120 (by decide) ?_
            refine lv_iadd hx0 hb dX12_attach_121 ?_
            by_cases z122 : (0 : Int32) < 0 ∨ lm 3 ≤ (0 : Int32).toNatClampNeg
            · rw [if_pos z122] at h; cases h
            rw [if_neg z122] at h
            refine saIm (k := 3) C hW hS (by decide) z122 dX12_attach_122 (fun H locs hW hS => ?_)
            refine lv_aload_n hx0 hb dX12_attach_123 rfl (lv_at hl 1 rfl) ?_
            refine gtX12_5 C hW flX12_20 dX12_attach_124 ?_
            refine lv_iconst (v := (0 : Int32)) hx0 hb dX12_attach_127 (by decide) ?_
            by_cases z128 : (0 : Int32) < 0 ∨ lm 3 ≤ (0 : Int32).toNatClampNeg
            · rw [if_pos z128] at h; cases h
            rw [if_neg z128] at h
            refine ldIm (k := 3) C hW (by decide) z128 dX12_attach_128 ?_
            refine lv_iconst (v := (1 : Int32)) hx0 hb dX12_attach_129 (by decide) ?_
            refine lv_isub hx0 hb dX12_attach_130 ?_
            cases h
            exact w_iret C hW hS dX12_attach_131
          · rw [if_pos c60] at h
            refine lv_aload_n hx0 hb dX12_attach_63 rfl (lv_at hl 0 rfl) ?_
            refine lv_iconst (v := (3 : Int32)) hx0 hb dX12_attach_64 (by decide) ?_
            obtain ⟨v65, h65, h⟩ := bnd h
            try dsimp only at h
            refine w_callV (L := (LM E b)) (k := 0) (As := [.int (3 : Int32)]) (rest := []) C hW hS (show 0 < 18 by decide) cm0 kcX12 (mX12_fails (3 : Int32)  (up σ 0 0 (0 : Int32)) v65 h65) cwX12_fails cvX12_fails rfl mlX12_94 ⟨by decide, by decide⟩ rfl hl.1 (Nat.le_of_ble_eq_true rfl) ⟨by decide, by decide⟩ dX12_attach_65 rfl (fun H locs hW hS => ?_)
            cases h
            exact w_iret C hW hS dX12_attach_68
      · rw [if_pos c35] at h
        refine lv_aload_n hx0 hb dX12_attach_38 rfl (lv_at hl 0 rfl) ?_
        refine lv_iconst (v := (2 : Int32)) hx0 hb dX12_attach_39 (by decide) ?_
        obtain ⟨v40, h40, h⟩ := bnd h
        try dsimp only at h
        refine w_callV (L := (LM E b)) (k := 0) (As := [.int (2 : Int32)]) (rest := []) C hW hS (show 0 < 18 by decide) cm0 kcX12 (mX12_fails (2 : Int32)  (up σ 0 0 (0 : Int32)) v40 h40) cwX12_fails cvX12_fails rfl mlX12_94 ⟨by decide, by decide⟩ rfl hl.1 (Nat.le_of_ble_eq_true rfl) ⟨by decide, by decide⟩ dX12_attach_40 rfl (fun H locs hW hS => ?_)
        cases h
        exact w_iret C hW hS dX12_attach_43
  · rw [if_pos c10] at h
    refine lv_aload_n hx0 hb dX12_attach_13 rfl (lv_at hl 0 rfl) ?_
    refine lv_iconst (v := (1 : Int32)) hx0 hb dX12_attach_14 (by decide) ?_
    obtain ⟨v15, h15, h⟩ := bnd h
    try dsimp only at h
    refine w_callV (L := (LM E b)) (k := 0) (As := [.int (1 : Int32)]) (rest := []) C hW hS (show 0 < 18 by decide) cm0 kcX12 (mX12_fails (1 : Int32)  (up σ 0 0 (0 : Int32)) v15 h15) cwX12_fails cvX12_fails rfl mlX12_94 ⟨by decide, by decide⟩ rfl hl.1 (Nat.le_of_ble_eq_true rfl) ⟨by decide, by decide⟩ dX12_attach_15 rfl (fun H locs hW hS => ?_)
    cases h
    exact w_iret C hW hS dX12_attach_18
def fX12_detach (x1 : Int32) (σ : Mem) : Option (Int32 × Mem) :=
  (fX12_isSlip x1 (up σ 0 0 (0 : Int32))).bind fun v7 => if v7 = 0 then ((fX12_fails (1 : Int32) (up σ 0 0 (0 : Int32))).bind fun v15 => some (v15.1, v15.2)) else ((fX12_isAttached x1 (up σ 0 0 (0 : Int32))).bind fun v21 => if v21 = 0 then ((fX12_fails (2 : Int32) (up σ 0 0 (0 : Int32))).bind fun v29 => some (v29.1, v29.2)) else ((fX12_remembers (up σ 0 0 (0 : Int32))).bind fun v34 => if ((5 : Int32) + ((3 : Int32) * x1)) < 0 ∨ lm 3 ≤ ((5 : Int32) + ((3 : Int32) * x1)).toNatClampNeg then none else if (((5 : Int32) + ((3 : Int32) * x1)) + (1 : Int32)) < 0 ∨ lm 3 ≤ (((5 : Int32) + ((3 : Int32) * x1)) + (1 : Int32)).toNatClampNeg then none else (fX12_attached (up (up v34 3 ((5 : Int32) + ((3 : Int32) * x1)).toNatClampNeg (-1 : Int32)) 3 (((5 : Int32) + ((3 : Int32) * x1)) + (1 : Int32)).toNatClampNeg (-1 : Int32))).bind fun v62 => some (v62, up (up v34 3 ((5 : Int32) + ((3 : Int32) * x1)).toNatClampNeg (-1 : Int32)) 3 (((5 : Int32) + ((3 : Int32) * x1)) + (1 : Int32)).toNatClampNeg (-1 : Int32))))
set_option maxRecDepth 100000 in
set_option maxHeartbeats 4000000 in
theorem mX12_detach {l : Launch} {E : Ev} {b : Nat} (x1 : Int32) (σ : Mem) (r : (Int32 × Mem)) (h : fX12_detach x1 σ = some r) : Met l yX12_detach (tw yX12_detach cX12_detach 2 (some .int)) { frames := 3, cells := 0, slots := 0, locals := 65 } (va_Pc [.ref (b + 0), .int x1] (Pr l E (LM E b) σ)) (Qz E (LM E b) (some (.int r.1)) r.2) 0 0 (La (LM E b)) := by
  refine ct_of (by decide) (Nat.le_of_ble_eq_true rfl) ?_
  intro p e s m below meth c C hW hS ls hl
  have hx0 := C.1
  have hb := C.2.1
  have hl : lv_has ls 2 [(0, .ref (b + 0)), (1, .int x1)] := hl
  unfold fX12_detach at h
  refine lv_aload_n hx0 hb dX12_detach_0 rfl (lv_at hl 0 rfl) ?_
  refine lv_iconst (v := (0 : Int32)) hx0 hb dX12_detach_1 (by decide) ?_
  refine ptX12_0 C hW hS flX12_3 dX12_detach_2 (fun H locs hW hS => ?_)
  refine lv_aload_n hx0 hb dX12_detach_5 rfl (lv_at hl 0 rfl) ?_
  refine lv_iload_n hx0 hb dX12_detach_6 rfl (lv_at hl 1 rfl) ?_
  obtain ⟨v7, h7, h⟩ := bnd h
  try dsimp only at h
  refine w_callV (L := (LM E b)) (k := 0) (As := [.int x1]) (rest := []) C hW hS (show 0 < 18 by decide) cm0 kcX12 (mX12_isSlip x1  (up σ 0 0 (0 : Int32)) v7 h7) cwX12_isSlip cvX12_isSlip rfl mlX12_314 ⟨by decide, by decide⟩ rfl hl.1 (Nat.le_of_ble_eq_true rfl) ⟨by decide, by decide⟩ dX12_detach_7 rfl (fun H locs hW hS => ?_)
  refine lv_if_ne (tgt := 19) hx0 hb dX12_detach_10 (by decide) (fun c10 => ?_) (fun c10 => ?_)
  · rw [if_neg c10] at h
    refine lv_aload_n hx0 hb dX12_detach_19 rfl (lv_at hl 0 rfl) ?_
    refine lv_iload_n hx0 hb dX12_detach_20 rfl (lv_at hl 1 rfl) ?_
    obtain ⟨v21, h21, h⟩ := bnd h
    try dsimp only at h
    refine w_callV (L := (LM E b)) (k := 0) (As := [.int x1]) (rest := []) C hW hS (show 0 < 18 by decide) cm0 kcX12 (mX12_isAttached x1  (up σ 0 0 (0 : Int32)) v21 h21) cwX12_isAttached cvX12_isAttached rfl mlX12_229 ⟨by decide, by decide⟩ rfl hl.1 (Nat.le_of_ble_eq_true rfl) ⟨by decide, by decide⟩ dX12_detach_21 rfl (fun H locs hW hS => ?_)
    refine lv_if_ne (tgt := 33) hx0 hb dX12_detach_24 (by decide) (fun c24 => ?_) (fun c24 => ?_)
    · rw [if_neg c24] at h
      refine lv_aload_n hx0 hb dX12_detach_33 rfl (lv_at hl 0 rfl) ?_
      obtain ⟨v34, h34, h⟩ := bnd h
      try dsimp only at h
      refine w_callV (L := (LM E b)) (k := 0) (As := []) (rest := []) C hW hS (show 0 < 18 by decide) cm0 kcX12 (mX12_remembers   (up σ 0 0 (0 : Int32)) v34 h34) cwX12_remembers cvX12_remembers rfl mlX12_285 ⟨by decide, by decide⟩ rfl hl.1 (Nat.le_of_ble_eq_true rfl) ⟨by decide, by decide⟩ dX12_detach_34 rfl (fun H locs hW hS => ?_)
      refine lv_aload_n hx0 hb dX12_detach_37 rfl (lv_at hl 0 rfl) ?_
      refine gtX12_5 C hW flX12_20 dX12_detach_38 ?_
      refine lv_iconst (v := (5 : Int32)) hx0 hb dX12_detach_41 (by decide) ?_
      refine lv_iconst (v := (3 : Int32)) hx0 hb dX12_detach_42 (by decide) ?_
      refine lv_iload_n hx0 hb dX12_detach_43 rfl (lv_at hl 1 rfl) ?_
      refine lv_imul hx0 hb dX12_detach_44 ?_
      refine lv_iadd hx0 hb dX12_detach_45 ?_
      refine lv_iconst (v := (-1 : Int32)) hx0 hb dX12_detach_46 (by decide) ?_
      by_cases z47 : ((5 : Int32) + ((3 : Int32) * x1)) < 0 ∨ lm 3 ≤ ((5 : Int32) + ((3 : Int32) * x1)).toNatClampNeg
      · rw [if_pos z47] at h; cases h
      rw [if_neg z47] at h
      refine saIm (k := 3) C hW hS (by decide) z47 dX12_detach_47 (fun H locs hW hS => ?_)
      refine lv_aload_n hx0 hb dX12_detach_48 rfl (lv_at hl 0 rfl) ?_
      refine gtX12_5 C hW flX12_20 dX12_detach_49 ?_
      refine lv_iconst (v := (5 : Int32)) hx0 hb dX12_detach_52 (by decide) ?_
      refine lv_iconst (v := (3 : Int32)) hx0 hb dX12_detach_53 (by decide) ?_
      refine lv_iload_n hx0 hb dX12_detach_54 rfl (lv_at hl 1 rfl) ?_
      refine lv_imul hx0 hb dX12_detach_55 ?_
      refine lv_iadd hx0 hb dX12_detach_56 ?_
      refine lv_iconst (v := (1 : Int32)) hx0 hb dX12_detach_57 (by decide) ?_
      refine lv_iadd hx0 hb dX12_detach_58 ?_
      refine lv_iconst (v := (-1 : Int32)) hx0 hb dX12_detach_59 (by decide) ?_
      by_cases z60 : (((5 : Int32) + ((3 : Int32) * x1)) + (1 : Int32)) < 0 ∨ lm 3 ≤ (((5 : Int32) + ((3 : Int32) * x1)) + (1 : Int32)).toNatClampNeg
      · rw [if_pos z60] at h; cases h
      rw [if_neg z60] at h
      refine saIm (k := 3) C hW hS (by decide) z60 dX12_detach_60 (fun H locs hW hS => ?_)
      refine lv_aload_n hx0 hb dX12_detach_61 rfl (lv_at hl 0 rfl) ?_
      obtain ⟨v62, h62, h⟩ := bnd h
      try dsimp only at h
      refine w_callV (L := (LM E b)) (k := 0) (As := []) (rest := []) C hW hS (show 0 < 18 by decide) cm0 kcX12 (mX12_attached   (up (up v34 3 ((5 : Int32) + ((3 : Int32) * x1)).toNatClampNeg (-1 : Int32)) 3 (((5 : Int32) + ((3 : Int32) * x1)) + (1 : Int32)).toNatClampNeg (-1 : Int32)) v62 h62) cwX12_attached cvX12_attached rfl mlX12_317 ⟨by decide, by decide⟩ rfl hl.1 (Nat.le_of_ble_eq_true rfl) ⟨by decide, by decide⟩ dX12_detach_62 rfl (fun H locs hW hS => ?_)
      cases h
      exact w_iret C hW hS dX12_detach_65
    · rw [if_pos c24] at h
      refine lv_aload_n hx0 hb dX12_detach_27 rfl (lv_at hl 0 rfl) ?_
      refine lv_iconst (v := (2 : Int32)) hx0 hb dX12_detach_28 (by decide) ?_
      obtain ⟨v29, h29, h⟩ := bnd h
      try dsimp only at h
      refine w_callV (L := (LM E b)) (k := 0) (As := [.int (2 : Int32)]) (rest := []) C hW hS (show 0 < 18 by decide) cm0 kcX12 (mX12_fails (2 : Int32)  (up σ 0 0 (0 : Int32)) v29 h29) cwX12_fails cvX12_fails rfl mlX12_94 ⟨by decide, by decide⟩ rfl hl.1 (Nat.le_of_ble_eq_true rfl) ⟨by decide, by decide⟩ dX12_detach_29 rfl (fun H locs hW hS => ?_)
      cases h
      exact w_iret C hW hS dX12_detach_32
  · rw [if_pos c10] at h
    refine lv_aload_n hx0 hb dX12_detach_13 rfl (lv_at hl 0 rfl) ?_
    refine lv_iconst (v := (1 : Int32)) hx0 hb dX12_detach_14 (by decide) ?_
    obtain ⟨v15, h15, h⟩ := bnd h
    try dsimp only at h
    refine w_callV (L := (LM E b)) (k := 0) (As := [.int (1 : Int32)]) (rest := []) C hW hS (show 0 < 18 by decide) cm0 kcX12 (mX12_fails (1 : Int32)  (up σ 0 0 (0 : Int32)) v15 h15) cwX12_fails cvX12_fails rfl mlX12_94 ⟨by decide, by decide⟩ rfl hl.1 (Nat.le_of_ble_eq_true rfl) ⟨by decide, by decide⟩ dX12_detach_15 rfl (fun H locs hW hS => ?_)
    cases h
    exact w_iret C hW hS dX12_detach_18
def fX12_label (x1 : Int32) (x2 : Int32) (x3 : Int32) (x4 : Int32) (σ : Mem) : Option (Int32 × Mem) :=
  (fX12_isLeaf x1 (up σ 0 0 (0 : Int32))).bind fun v7 => if v7 = 0 then ((fX12_fails (1 : Int32) (up σ 0 0 (0 : Int32))).bind fun v23 => some (v23.1, v23.2)) else ((fX12_isLeaf x2 (up σ 0 0 (0 : Int32))).bind fun v15 => if v15 = 0 then ((fX12_fails (1 : Int32) (up σ 0 0 (0 : Int32))).bind fun v23 => some (v23.1, v23.2)) else (if x2 < x1 then ((fX12_fails (2 : Int32) (up σ 0 0 (0 : Int32))).bind fun v59 => some (v59.1, v59.2)) else ((fX12_isIn x3.toInt64 (0 : Int64) (3 : Int64) (up σ 0 0 (0 : Int32))).bind fun v38 => if v38 = 0 then ((fX12_fails (2 : Int32) (up σ 0 0 (0 : Int32))).bind fun v59 => some (v59.1, v59.2)) else ((fX12_isIn x4.toInt64 (1 : Int64) (999 : Int64) (up σ 0 0 (0 : Int32))).bind fun v51 => if v51 = 0 then ((fX12_fails (2 : Int32) (up σ 0 0 (0 : Int32))).bind fun v59 => some (v59.1, v59.2)) else (if (1 : Int32) < 0 ∨ lm 3 ≤ (1 : Int32).toNatClampNeg then none else if ((up σ 0 0 (0 : Int32)) 3 (1 : Int32).toNatClampNeg) = (12 : Int32) then ((fX12_fails (3 : Int32) (up σ 0 0 (0 : Int32))).bind fun v76 => some (v76.1, v76.2)) else ((fX12_remembers (up σ 0 0 (0 : Int32))).bind fun v81 => if (1 : Int32) < 0 ∨ lm 3 ≤ (1 : Int32).toNatClampNeg then none else if ((41 : Int32) + ((4 : Int32) * (v81 3 (1 : Int32).toNatClampNeg))) < 0 ∨ lm 3 ≤ ((41 : Int32) + ((4 : Int32) * (v81 3 (1 : Int32).toNatClampNeg))).toNatClampNeg then none else if (((41 : Int32) + ((4 : Int32) * (v81 3 (1 : Int32).toNatClampNeg))) + (1 : Int32)) < 0 ∨ lm 3 ≤ (((41 : Int32) + ((4 : Int32) * (v81 3 (1 : Int32).toNatClampNeg))) + (1 : Int32)).toNatClampNeg then none else if (((41 : Int32) + ((4 : Int32) * (v81 3 (1 : Int32).toNatClampNeg))) + (2 : Int32)) < 0 ∨ lm 3 ≤ (((41 : Int32) + ((4 : Int32) * (v81 3 (1 : Int32).toNatClampNeg))) + (2 : Int32)).toNatClampNeg then none else if (((41 : Int32) + ((4 : Int32) * (v81 3 (1 : Int32).toNatClampNeg))) + (3 : Int32)) < 0 ∨ lm 3 ≤ (((41 : Int32) + ((4 : Int32) * (v81 3 (1 : Int32).toNatClampNeg))) + (3 : Int32)).toNatClampNeg then none else if (1 : Int32) < 0 ∨ lm 3 ≤ (1 : Int32).toNatClampNeg then none else if (1 : Int32) < 0 ∨ lm 3 ≤ (1 : Int32).toNatClampNeg then none else if (1 : Int32) < 0 ∨ lm 3 ≤ (1 : Int32).toNatClampNeg then none else some ((up (up (up (up (up v81 3 ((41 : Int32) + ((4 : Int32) * (v81 3 (1 : Int32).toNatClampNeg))).toNatClampNeg x1) 3 (((41 : Int32) + ((4 : Int32) * (v81 3 (1 : Int32).toNatClampNeg))) + (1 : Int32)).toNatClampNeg x2) 3 (((41 : Int32) + ((4 : Int32) * (v81 3 (1 : Int32).toNatClampNeg))) + (2 : Int32)).toNatClampNeg x3) 3 (((41 : Int32) + ((4 : Int32) * (v81 3 (1 : Int32).toNatClampNeg))) + (3 : Int32)).toNatClampNeg x4) 3 (1 : Int32).toNatClampNeg (((up (up (up (up v81 3 ((41 : Int32) + ((4 : Int32) * (v81 3 (1 : Int32).toNatClampNeg))).toNatClampNeg x1) 3 (((41 : Int32) + ((4 : Int32) * (v81 3 (1 : Int32).toNatClampNeg))) + (1 : Int32)).toNatClampNeg x2) 3 (((41 : Int32) + ((4 : Int32) * (v81 3 (1 : Int32).toNatClampNeg))) + (2 : Int32)).toNatClampNeg x3) 3 (((41 : Int32) + ((4 : Int32) * (v81 3 (1 : Int32).toNatClampNeg))) + (3 : Int32)).toNatClampNeg x4) 3 (1 : Int32).toNatClampNeg) + (1 : Int32))) 3 (1 : Int32).toNatClampNeg, up (up (up (up (up v81 3 ((41 : Int32) + ((4 : Int32) * (v81 3 (1 : Int32).toNatClampNeg))).toNatClampNeg x1) 3 (((41 : Int32) + ((4 : Int32) * (v81 3 (1 : Int32).toNatClampNeg))) + (1 : Int32)).toNatClampNeg x2) 3 (((41 : Int32) + ((4 : Int32) * (v81 3 (1 : Int32).toNatClampNeg))) + (2 : Int32)).toNatClampNeg x3) 3 (((41 : Int32) + ((4 : Int32) * (v81 3 (1 : Int32).toNatClampNeg))) + (3 : Int32)).toNatClampNeg x4) 3 (1 : Int32).toNatClampNeg (((up (up (up (up v81 3 ((41 : Int32) + ((4 : Int32) * (v81 3 (1 : Int32).toNatClampNeg))).toNatClampNeg x1) 3 (((41 : Int32) + ((4 : Int32) * (v81 3 (1 : Int32).toNatClampNeg))) + (1 : Int32)).toNatClampNeg x2) 3 (((41 : Int32) + ((4 : Int32) * (v81 3 (1 : Int32).toNatClampNeg))) + (2 : Int32)).toNatClampNeg x3) 3 (((41 : Int32) + ((4 : Int32) * (v81 3 (1 : Int32).toNatClampNeg))) + (3 : Int32)).toNatClampNeg x4) 3 (1 : Int32).toNatClampNeg) + (1 : Int32)))))))))
set_option maxRecDepth 100000 in
set_option maxHeartbeats 4000000 in
theorem mX12_label {l : Launch} {E : Ev} {b : Nat} (x1 : Int32) (x2 : Int32) (x3 : Int32) (x4 : Int32) (σ : Mem) (r : (Int32 × Mem)) (h : fX12_label x1 x2 x3 x4 σ = some r) : Met l yX12_label (tw yX12_label cX12_label 6 (some .int)) { frames := 2, cells := 0, slots := 0, locals := 46 } (va_Pc [.ref (b + 0), .int x1, .int x2, .int x3, .int x4] (Pr l E (LM E b) σ)) (Qz E (LM E b) (some (.int r.1)) r.2) 0 0 (La (LM E b)) := by
  refine ct_of (by decide) (Nat.le_of_ble_eq_true rfl) ?_
  intro p e s m below meth c C hW hS ls hl
  have hx0 := C.1
  have hb := C.2.1
  have hl : lv_has ls 6 [(0, .ref (b + 0)), (1, .int x1), (2, .int x2), (3, .int x3), (4, .int x4)] := hl
  unfold fX12_label at h
  refine lv_aload_n hx0 hb dX12_label_0 rfl (lv_at hl 0 rfl) ?_
  refine lv_iconst (v := (0 : Int32)) hx0 hb dX12_label_1 (by decide) ?_
  refine ptX12_0 C hW hS flX12_3 dX12_label_2 (fun H locs hW hS => ?_)
  refine lv_aload_n hx0 hb dX12_label_5 rfl (lv_at hl 0 rfl) ?_
  refine lv_iload_n hx0 hb dX12_label_6 rfl (lv_at hl 1 rfl) ?_
  obtain ⟨v7, h7, h⟩ := bnd h
  try dsimp only at h
  refine w_callV (L := (LM E b)) (k := 0) (As := [.int x1]) (rest := []) C hW hS (show 0 < 18 by decide) cm0 kcX12 (mX12_isLeaf x1  (up σ 0 0 (0 : Int32)) v7 h7) cwX12_isLeaf cvX12_isLeaf rfl mlX12_297 ⟨by decide, by decide⟩ rfl hl.1 (Nat.le_of_ble_eq_true rfl) ⟨by decide, by decide⟩ dX12_label_7 rfl (fun H locs hW hS => ?_)
  refine lv_if_eq (tgt := 21) hx0 hb dX12_label_10 (by decide) (fun c10 => ?_) (fun c10 => ?_)
  · rw [if_pos c10] at h
    refine lv_aload_n hx0 hb dX12_label_21 rfl (lv_at hl 0 rfl) ?_
    refine lv_iconst (v := (1 : Int32)) hx0 hb dX12_label_22 (by decide) ?_
    obtain ⟨v23, h23, h⟩ := bnd h
    try dsimp only at h
    refine w_callV (L := (LM E b)) (k := 0) (As := [.int (1 : Int32)]) (rest := []) C hW hS (show 0 < 18 by decide) cm0 kcX12 (mX12_fails (1 : Int32)  (up σ 0 0 (0 : Int32)) v23 h23) cwX12_fails cvX12_fails rfl mlX12_94 ⟨by decide, by decide⟩ rfl hl.1 (Nat.le_of_ble_eq_true rfl) ⟨by decide, by decide⟩ dX12_label_23 rfl (fun H locs hW hS => ?_)
    cases h
    exact w_iret C hW hS dX12_label_26
  · rw [if_neg c10] at h
    refine lv_aload_n hx0 hb dX12_label_13 rfl (lv_at hl 0 rfl) ?_
    refine lv_iload_n hx0 hb dX12_label_14 rfl (lv_at hl 2 rfl) ?_
    obtain ⟨v15, h15, h⟩ := bnd h
    try dsimp only at h
    refine w_callV (L := (LM E b)) (k := 0) (As := [.int x2]) (rest := []) C hW hS (show 0 < 18 by decide) cm0 kcX12 (mX12_isLeaf x2  (up σ 0 0 (0 : Int32)) v15 h15) cwX12_isLeaf cvX12_isLeaf rfl mlX12_297 ⟨by decide, by decide⟩ rfl hl.1 (Nat.le_of_ble_eq_true rfl) ⟨by decide, by decide⟩ dX12_label_15 rfl (fun H locs hW hS => ?_)
    refine lv_if_ne (tgt := 27) hx0 hb dX12_label_18 (by decide) (fun c18 => ?_) (fun c18 => ?_)
    · rw [if_neg c18] at h
      refine lv_iload_n hx0 hb dX12_label_27 rfl (lv_at hl 2 rfl) ?_
      refine lv_iload_n hx0 hb dX12_label_28 rfl (lv_at hl 1 rfl) ?_
      refine lv_icmp_lt (tgt := 57) hx0 hb dX12_label_29 (by decide) (fun c29 => ?_) (fun c29 => ?_)
      · rw [if_pos c29] at h
        refine lv_aload_n hx0 hb dX12_label_57 rfl (lv_at hl 0 rfl) ?_
        refine lv_iconst (v := (2 : Int32)) hx0 hb dX12_label_58 (by decide) ?_
        obtain ⟨v59, h59, h⟩ := bnd h
        try dsimp only at h
        refine w_callV (L := (LM E b)) (k := 0) (As := [.int (2 : Int32)]) (rest := []) C hW hS (show 0 < 18 by decide) cm0 kcX12 (mX12_fails (2 : Int32)  (up σ 0 0 (0 : Int32)) v59 h59) cwX12_fails cvX12_fails rfl mlX12_94 ⟨by decide, by decide⟩ rfl hl.1 (Nat.le_of_ble_eq_true rfl) ⟨by decide, by decide⟩ dX12_label_59 rfl (fun H locs hW hS => ?_)
        cases h
        exact w_iret C hW hS dX12_label_62
      · rw [if_neg c29] at h
        refine lv_iload_n hx0 hb dX12_label_32 rfl (lv_at hl 3 rfl) ?_
        refine lv_i2l hx0 hb dX12_label_33 rfl ?_
        refine lv_lconst (v := (0 : Int64)) hx0 hb dX12_label_34 (by decide) ?_
        refine lv_ldc2 hx0 hb C.2.2.2.1 (C.2.2.2.2.1 _ klX12_320) dX12_label_35 ?_
        obtain ⟨v38, h38, h⟩ := bnd h
        try dsimp only at h
        refine w_callS (L := (LM E b)) (As := [.long x3.toInt64, .long (0 : Int64), .long (3 : Int64)]) (rest := []) C hW hS (mX12_isIn x3.toInt64 (0 : Int64) (3 : Int64)  (up σ 0 0 (0 : Int32)) v38 h38) cwX12_isIn csX12_isIn mlX12_101 ⟨by decide, by decide⟩ rfl hl.1 (Nat.le_of_ble_eq_true rfl) ⟨by decide, by decide⟩ dX12_label_38 rfl (fun H locs hW hS => ?_)
        refine lv_if_eq (tgt := 57) hx0 hb dX12_label_41 (by decide) (fun c41 => ?_) (fun c41 => ?_)
        · rw [if_pos c41] at h
          refine lv_aload_n hx0 hb dX12_label_57 rfl (lv_at hl 0 rfl) ?_
          refine lv_iconst (v := (2 : Int32)) hx0 hb dX12_label_58 (by decide) ?_
          obtain ⟨v59, h59, h⟩ := bnd h
          try dsimp only at h
          refine w_callV (L := (LM E b)) (k := 0) (As := [.int (2 : Int32)]) (rest := []) C hW hS (show 0 < 18 by decide) cm0 kcX12 (mX12_fails (2 : Int32)  (up σ 0 0 (0 : Int32)) v59 h59) cwX12_fails cvX12_fails rfl mlX12_94 ⟨by decide, by decide⟩ rfl hl.1 (Nat.le_of_ble_eq_true rfl) ⟨by decide, by decide⟩ dX12_label_59 rfl (fun H locs hW hS => ?_)
          cases h
          exact w_iret C hW hS dX12_label_62
        · rw [if_neg c41] at h
          refine lv_iload hx0 hb dX12_label_44 (lv_at hl 4 rfl) ?_
          refine lv_i2l hx0 hb dX12_label_46 rfl ?_
          refine lv_lconst (v := (1 : Int64)) hx0 hb dX12_label_47 (by decide) ?_
          refine lv_ldc2 hx0 hb C.2.2.2.1 (C.2.2.2.2.1 _ klX12_322) dX12_label_48 ?_
          obtain ⟨v51, h51, h⟩ := bnd h
          try dsimp only at h
          refine w_callS (L := (LM E b)) (As := [.long x4.toInt64, .long (1 : Int64), .long (999 : Int64)]) (rest := []) C hW hS (mX12_isIn x4.toInt64 (1 : Int64) (999 : Int64)  (up σ 0 0 (0 : Int32)) v51 h51) cwX12_isIn csX12_isIn mlX12_101 ⟨by decide, by decide⟩ rfl hl.1 (Nat.le_of_ble_eq_true rfl) ⟨by decide, by decide⟩ dX12_label_51 rfl (fun H locs hW hS => ?_)
          refine lv_if_ne (tgt := 63) hx0 hb dX12_label_54 (by decide) (fun c54 => ?_) (fun c54 => ?_)
          · rw [if_neg c54] at h
            refine lv_aload_n hx0 hb dX12_label_63 rfl (lv_at hl 0 rfl) ?_
            refine gtX12_5 C hW flX12_20 dX12_label_64 ?_
            refine lv_iconst (v := (1 : Int32)) hx0 hb dX12_label_67 (by decide) ?_
            by_cases z68 : (1 : Int32) < 0 ∨ lm 3 ≤ (1 : Int32).toNatClampNeg
            · rw [if_pos z68] at h; cases h
            rw [if_neg z68] at h
            refine ldIm (k := 3) C hW (by decide) z68 dX12_label_68 ?_
            refine lv_bipush (v := (12 : Int32)) hx0 hb dX12_label_69 (by decide) ?_
            refine lv_icmp_ne (tgt := 80) hx0 hb dX12_label_71 (by decide) (fun c71 => ?_) (fun c71 => ?_)
            · rw [if_neg c71] at h
              refine lv_aload_n hx0 hb dX12_label_80 rfl (lv_at hl 0 rfl) ?_
              obtain ⟨v81, h81, h⟩ := bnd h
              try dsimp only at h
              refine w_callV (L := (LM E b)) (k := 0) (As := []) (rest := []) C hW hS (show 0 < 18 by decide) cm0 kcX12 (mX12_remembers   (up σ 0 0 (0 : Int32)) v81 h81) cwX12_remembers cvX12_remembers rfl mlX12_285 ⟨by decide, by decide⟩ rfl hl.1 (Nat.le_of_ble_eq_true rfl) ⟨by decide, by decide⟩ dX12_label_81 rfl (fun H locs hW hS => ?_)
              refine lv_bipush (v := (41 : Int32)) hx0 hb dX12_label_84 (by decide) ?_
              refine lv_iconst (v := (4 : Int32)) hx0 hb dX12_label_86 (by decide) ?_
              refine lv_aload_n hx0 hb dX12_label_87 rfl (lv_at hl 0 rfl) ?_
              refine gtX12_5 C hW flX12_20 dX12_label_88 ?_
              refine lv_iconst (v := (1 : Int32)) hx0 hb dX12_label_91 (by decide) ?_
              by_cases z92 : (1 : Int32) < 0 ∨ lm 3 ≤ (1 : Int32).toNatClampNeg
              · rw [if_pos z92] at h; cases h
              rw [if_neg z92] at h
              refine ldIm (k := 3) C hW (by decide) z92 dX12_label_92 ?_
              refine lv_imul hx0 hb dX12_label_93 ?_
              refine lv_iadd hx0 hb dX12_label_94 ?_
              refine lv_istore (lv' := [(5, .int ((41 : Int32) + ((4 : Int32) * (v81 3 (1 : Int32).toNatClampNeg)))), (0, .ref (b + 0)), (1, .int x1), (2, .int x2), (3, .int x3), (4, .int x4)]) hx0 hb dX12_label_95 hl (by decide) rfl (fun ls hl => ?_)
              refine lv_aload_n hx0 hb dX12_label_97 rfl (lv_at hl 1 rfl) ?_
              refine gtX12_5 C hW flX12_20 dX12_label_98 ?_
              refine lv_iload hx0 hb dX12_label_101 (lv_at hl 0 rfl) ?_
              refine lv_iload_n hx0 hb dX12_label_103 rfl (lv_at hl 2 rfl) ?_
              by_cases z104 : ((41 : Int32) + ((4 : Int32) * (v81 3 (1 : Int32).toNatClampNeg))) < 0 ∨ lm 3 ≤ ((41 : Int32) + ((4 : Int32) * (v81 3 (1 : Int32).toNatClampNeg))).toNatClampNeg
              · rw [if_pos z104] at h; cases h
              rw [if_neg z104] at h
              refine saIm (k := 3) C hW hS (by decide) z104 dX12_label_104 (fun H locs hW hS => ?_)
              refine lv_aload_n hx0 hb dX12_label_105 rfl (lv_at hl 1 rfl) ?_
              refine gtX12_5 C hW flX12_20 dX12_label_106 ?_
              refine lv_iload hx0 hb dX12_label_109 (lv_at hl 0 rfl) ?_
              refine lv_iconst (v := (1 : Int32)) hx0 hb dX12_label_111 (by decide) ?_
              refine lv_iadd hx0 hb dX12_label_112 ?_
              refine lv_iload_n hx0 hb dX12_label_113 rfl (lv_at hl 3 rfl) ?_
              by_cases z114 : (((41 : Int32) + ((4 : Int32) * (v81 3 (1 : Int32).toNatClampNeg))) + (1 : Int32)) < 0 ∨ lm 3 ≤ (((41 : Int32) + ((4 : Int32) * (v81 3 (1 : Int32).toNatClampNeg))) + (1 : Int32)).toNatClampNeg
              · rw [if_pos z114] at h; cases h
              rw [if_neg z114] at h
              refine saIm (k := 3) C hW hS (by decide) z114 dX12_label_114 (fun H locs hW hS => ?_)
              refine lv_aload_n hx0 hb dX12_label_115 rfl (lv_at hl 1 rfl) ?_
              refine gtX12_5 C hW flX12_20 dX12_label_116 ?_
              refine lv_iload hx0 hb dX12_label_119 (lv_at hl 0 rfl) ?_
              refine lv_iconst (v := (2 : Int32)) hx0 hb dX12_label_121 (by decide) ?_
              refine lv_iadd hx0 hb dX12_label_122 ?_
              refine lv_iload_n hx0 hb dX12_label_123 rfl (lv_at hl 4 rfl) ?_
              by_cases z124 : (((41 : Int32) + ((4 : Int32) * (v81 3 (1 : Int32).toNatClampNeg))) + (2 : Int32)) < 0 ∨ lm 3 ≤ (((41 : Int32) + ((4 : Int32) * (v81 3 (1 : Int32).toNatClampNeg))) + (2 : Int32)).toNatClampNeg
              · rw [if_pos z124] at h; cases h
              rw [if_neg z124] at h
              refine saIm (k := 3) C hW hS (by decide) z124 dX12_label_124 (fun H locs hW hS => ?_)
              refine lv_aload_n hx0 hb dX12_label_125 rfl (lv_at hl 1 rfl) ?_
              refine gtX12_5 C hW flX12_20 dX12_label_126 ?_
              refine lv_iload hx0 hb dX12_label_129 (lv_at hl 0 rfl) ?_
              refine lv_iconst (v := (3 : Int32)) hx0 hb dX12_label_131 (by decide) ?_
              refine lv_iadd hx0 hb dX12_label_132 ?_
              refine lv_iload hx0 hb dX12_label_133 (lv_at hl 5 rfl) ?_
              by_cases z135 : (((41 : Int32) + ((4 : Int32) * (v81 3 (1 : Int32).toNatClampNeg))) + (3 : Int32)) < 0 ∨ lm 3 ≤ (((41 : Int32) + ((4 : Int32) * (v81 3 (1 : Int32).toNatClampNeg))) + (3 : Int32)).toNatClampNeg
              · rw [if_pos z135] at h; cases h
              rw [if_neg z135] at h
              refine saIm (k := 3) C hW hS (by decide) z135 dX12_label_135 (fun H locs hW hS => ?_)
              refine lv_aload_n hx0 hb dX12_label_136 rfl (lv_at hl 1 rfl) ?_
              refine gtX12_5 C hW flX12_20 dX12_label_137 ?_
              refine lv_iconst (v := (1 : Int32)) hx0 hb dX12_label_140 (by decide) ?_
              refine lv_dup2_11 hx0 hb dX12_label_141 rfl rfl ?_
              by_cases z142 : (1 : Int32) < 0 ∨ lm 3 ≤ (1 : Int32).toNatClampNeg
              · rw [if_pos z142] at h; cases h
              rw [if_neg z142] at h
              refine ldIm (k := 3) C hW (by decide) z142 dX12_label_142 ?_
              refine lv_iconst (v := (1 : Int32)) hx0 hb dX12_label_143 (by decide) ?_
              refine lv_iadd hx0 hb dX12_label_144 ?_
              by_cases z145 : (1 : Int32) < 0 ∨ lm 3 ≤ (1 : Int32).toNatClampNeg
              · rw [if_pos z145] at h; cases h
              rw [if_neg z145] at h
              refine saIm (k := 3) C hW hS (by decide) z145 dX12_label_145 (fun H locs hW hS => ?_)
              refine lv_aload_n hx0 hb dX12_label_146 rfl (lv_at hl 1 rfl) ?_
              refine gtX12_5 C hW flX12_20 dX12_label_147 ?_
              refine lv_iconst (v := (1 : Int32)) hx0 hb dX12_label_150 (by decide) ?_
              by_cases z151 : (1 : Int32) < 0 ∨ lm 3 ≤ (1 : Int32).toNatClampNeg
              · rw [if_pos z151] at h; cases h
              rw [if_neg z151] at h
              refine ldIm (k := 3) C hW (by decide) z151 dX12_label_151 ?_
              cases h
              exact w_iret C hW hS dX12_label_152
            · rw [if_pos c71] at h
              refine lv_aload_n hx0 hb dX12_label_74 rfl (lv_at hl 0 rfl) ?_
              refine lv_iconst (v := (3 : Int32)) hx0 hb dX12_label_75 (by decide) ?_
              obtain ⟨v76, h76, h⟩ := bnd h
              try dsimp only at h
              refine w_callV (L := (LM E b)) (k := 0) (As := [.int (3 : Int32)]) (rest := []) C hW hS (show 0 < 18 by decide) cm0 kcX12 (mX12_fails (3 : Int32)  (up σ 0 0 (0 : Int32)) v76 h76) cwX12_fails cvX12_fails rfl mlX12_94 ⟨by decide, by decide⟩ rfl hl.1 (Nat.le_of_ble_eq_true rfl) ⟨by decide, by decide⟩ dX12_label_76 rfl (fun H locs hW hS => ?_)
              cases h
              exact w_iret C hW hS dX12_label_79
          · rw [if_pos c54] at h
            refine lv_aload_n hx0 hb dX12_label_57 rfl (lv_at hl 0 rfl) ?_
            refine lv_iconst (v := (2 : Int32)) hx0 hb dX12_label_58 (by decide) ?_
            obtain ⟨v59, h59, h⟩ := bnd h
            try dsimp only at h
            refine w_callV (L := (LM E b)) (k := 0) (As := [.int (2 : Int32)]) (rest := []) C hW hS (show 0 < 18 by decide) cm0 kcX12 (mX12_fails (2 : Int32)  (up σ 0 0 (0 : Int32)) v59 h59) cwX12_fails cvX12_fails rfl mlX12_94 ⟨by decide, by decide⟩ rfl hl.1 (Nat.le_of_ble_eq_true rfl) ⟨by decide, by decide⟩ dX12_label_59 rfl (fun H locs hW hS => ?_)
            cases h
            exact w_iret C hW hS dX12_label_62
    · rw [if_pos c18] at h
      refine lv_aload_n hx0 hb dX12_label_21 rfl (lv_at hl 0 rfl) ?_
      refine lv_iconst (v := (1 : Int32)) hx0 hb dX12_label_22 (by decide) ?_
      obtain ⟨v23, h23, h⟩ := bnd h
      try dsimp only at h
      refine w_callV (L := (LM E b)) (k := 0) (As := [.int (1 : Int32)]) (rest := []) C hW hS (show 0 < 18 by decide) cm0 kcX12 (mX12_fails (1 : Int32)  (up σ 0 0 (0 : Int32)) v23 h23) cwX12_fails cvX12_fails rfl mlX12_94 ⟨by decide, by decide⟩ rfl hl.1 (Nat.le_of_ble_eq_true rfl) ⟨by decide, by decide⟩ dX12_label_23 rfl (fun H locs hW hS => ?_)
      cases h
      exact w_iret C hW hS dX12_label_26
def fX12_scanLeaf (x1 : Int32) (x2 : Int32) (σ : Mem) : Option (Int32 × Mem) :=
  (fX12_isLeaf x1 (up σ 0 0 (0 : Int32))).bind fun v7 => if v7 = 0 then ((fX12_fails (1 : Int32) (up σ 0 0 (0 : Int32))).bind fun v15 => some (v15.1, v15.2)) else ((fX12_isSide x2 (up σ 0 0 (0 : Int32))).bind fun v20 => if v20 = 0 then ((fX12_fails (2 : Int32) (up σ 0 0 (0 : Int32))).bind fun v28 => some (v28.1, v28.2)) else ((fX12_isPresent x1 (up σ 0 0 (0 : Int32))).bind fun v34 => if v34 = 0 then ((fX12_fails (3 : Int32) (up σ 0 0 (0 : Int32))).bind fun v53 => some (v53.1, v53.2)) else (if (2 : Int32) < 0 ∨ lm 3 ≤ (2 : Int32).toNatClampNeg then none else if ((up σ 0 0 (0 : Int32)) 3 (2 : Int32).toNatClampNeg) = (60 : Int32) then ((fX12_fails (3 : Int32) (up σ 0 0 (0 : Int32))).bind fun v53 => some (v53.1, v53.2)) else ((fX12_adds (0 : Int32) x1 x2 (up σ 0 0 (0 : Int32))).bind fun v61 => some (v61.1, v61.2)))))
set_option maxRecDepth 100000 in
set_option maxHeartbeats 4000000 in
theorem mX12_scanLeaf {l : Launch} {E : Ev} {b : Nat} (x1 : Int32) (x2 : Int32) (σ : Mem) (r : (Int32 × Mem)) (h : fX12_scanLeaf x1 x2 σ = some r) : Met l yX12_scanLeaf (tw yX12_scanLeaf cX12_scanLeaf 3 (some .int)) { frames := 3, cells := 0, slots := 0, locals := 69 } (va_Pc [.ref (b + 0), .int x1, .int x2] (Pr l E (LM E b) σ)) (Qz E (LM E b) (some (.int r.1)) r.2) 0 0 (La (LM E b)) := by
  refine ct_of (by decide) (Nat.le_of_ble_eq_true rfl) ?_
  intro p e s m below meth c C hW hS ls hl
  have hx0 := C.1
  have hb := C.2.1
  have hl : lv_has ls 3 [(0, .ref (b + 0)), (1, .int x1), (2, .int x2)] := hl
  unfold fX12_scanLeaf at h
  refine lv_aload_n hx0 hb dX12_scanLeaf_0 rfl (lv_at hl 0 rfl) ?_
  refine lv_iconst (v := (0 : Int32)) hx0 hb dX12_scanLeaf_1 (by decide) ?_
  refine ptX12_0 C hW hS flX12_3 dX12_scanLeaf_2 (fun H locs hW hS => ?_)
  refine lv_aload_n hx0 hb dX12_scanLeaf_5 rfl (lv_at hl 0 rfl) ?_
  refine lv_iload_n hx0 hb dX12_scanLeaf_6 rfl (lv_at hl 1 rfl) ?_
  obtain ⟨v7, h7, h⟩ := bnd h
  try dsimp only at h
  refine w_callV (L := (LM E b)) (k := 0) (As := [.int x1]) (rest := []) C hW hS (show 0 < 18 by decide) cm0 kcX12 (mX12_isLeaf x1  (up σ 0 0 (0 : Int32)) v7 h7) cwX12_isLeaf cvX12_isLeaf rfl mlX12_297 ⟨by decide, by decide⟩ rfl hl.1 (Nat.le_of_ble_eq_true rfl) ⟨by decide, by decide⟩ dX12_scanLeaf_7 rfl (fun H locs hW hS => ?_)
  refine lv_if_ne (tgt := 19) hx0 hb dX12_scanLeaf_10 (by decide) (fun c10 => ?_) (fun c10 => ?_)
  · rw [if_neg c10] at h
    refine lv_iload_n hx0 hb dX12_scanLeaf_19 rfl (lv_at hl 2 rfl) ?_
    obtain ⟨v20, h20, h⟩ := bnd h
    try dsimp only at h
    refine w_callS (L := (LM E b)) (As := [.int x2]) (rest := []) C hW hS (mX12_isSide x2  (up σ 0 0 (0 : Int32)) v20 h20) cwX12_isSide csX12_isSide mlX12_309 ⟨by decide, by decide⟩ rfl hl.1 (Nat.le_of_ble_eq_true rfl) ⟨by decide, by decide⟩ dX12_scanLeaf_20 rfl (fun H locs hW hS => ?_)
    refine lv_if_ne (tgt := 32) hx0 hb dX12_scanLeaf_23 (by decide) (fun c23 => ?_) (fun c23 => ?_)
    · rw [if_neg c23] at h
      refine lv_aload_n hx0 hb dX12_scanLeaf_32 rfl (lv_at hl 0 rfl) ?_
      refine lv_iload_n hx0 hb dX12_scanLeaf_33 rfl (lv_at hl 1 rfl) ?_
      obtain ⟨v34, h34, h⟩ := bnd h
      try dsimp only at h
      refine w_callV (L := (LM E b)) (k := 0) (As := [.int x1]) (rest := []) C hW hS (show 0 < 18 by decide) cm0 kcX12 (mX12_isPresent x1  (up σ 0 0 (0 : Int32)) v34 h34) cwX12_isPresent cvX12_isPresent rfl mlX12_215 ⟨by decide, by decide⟩ rfl hl.1 (Nat.le_of_ble_eq_true rfl) ⟨by decide, by decide⟩ dX12_scanLeaf_34 rfl (fun H locs hW hS => ?_)
      refine lv_if_eq (tgt := 51) hx0 hb dX12_scanLeaf_37 (by decide) (fun c37 => ?_) (fun c37 => ?_)
      · rw [if_pos c37] at h
        refine lv_aload_n hx0 hb dX12_scanLeaf_51 rfl (lv_at hl 0 rfl) ?_
        refine lv_iconst (v := (3 : Int32)) hx0 hb dX12_scanLeaf_52 (by decide) ?_
        obtain ⟨v53, h53, h⟩ := bnd h
        try dsimp only at h
        refine w_callV (L := (LM E b)) (k := 0) (As := [.int (3 : Int32)]) (rest := []) C hW hS (show 0 < 18 by decide) cm0 kcX12 (mX12_fails (3 : Int32)  (up σ 0 0 (0 : Int32)) v53 h53) cwX12_fails cvX12_fails rfl mlX12_94 ⟨by decide, by decide⟩ rfl hl.1 (Nat.le_of_ble_eq_true rfl) ⟨by decide, by decide⟩ dX12_scanLeaf_53 rfl (fun H locs hW hS => ?_)
        cases h
        exact w_iret C hW hS dX12_scanLeaf_56
      · rw [if_neg c37] at h
        refine lv_aload_n hx0 hb dX12_scanLeaf_40 rfl (lv_at hl 0 rfl) ?_
        refine gtX12_5 C hW flX12_20 dX12_scanLeaf_41 ?_
        refine lv_iconst (v := (2 : Int32)) hx0 hb dX12_scanLeaf_44 (by decide) ?_
        by_cases z45 : (2 : Int32) < 0 ∨ lm 3 ≤ (2 : Int32).toNatClampNeg
        · rw [if_pos z45] at h; cases h
        rw [if_neg z45] at h
        refine ldIm (k := 3) C hW (by decide) z45 dX12_scanLeaf_45 ?_
        refine lv_bipush (v := (60 : Int32)) hx0 hb dX12_scanLeaf_46 (by decide) ?_
        refine lv_icmp_ne (tgt := 57) hx0 hb dX12_scanLeaf_48 (by decide) (fun c48 => ?_) (fun c48 => ?_)
        · rw [if_neg c48] at h
          refine lv_aload_n hx0 hb dX12_scanLeaf_57 rfl (lv_at hl 0 rfl) ?_
          refine lv_iconst (v := (0 : Int32)) hx0 hb dX12_scanLeaf_58 (by decide) ?_
          refine lv_iload_n hx0 hb dX12_scanLeaf_59 rfl (lv_at hl 1 rfl) ?_
          refine lv_iload_n hx0 hb dX12_scanLeaf_60 rfl (lv_at hl 2 rfl) ?_
          obtain ⟨v61, h61, h⟩ := bnd h
          try dsimp only at h
          refine w_callV (L := (LM E b)) (k := 0) (As := [.int (0 : Int32), .int x1, .int x2]) (rest := []) C hW hS (show 0 < 18 by decide) cm0 kcX12 (mX12_adds (0 : Int32) x1 x2  (up σ 0 0 (0 : Int32)) v61 h61) cwX12_adds cvX12_adds rfl mlX12_324 ⟨by decide, by decide⟩ rfl hl.1 (Nat.le_of_ble_eq_true rfl) ⟨by decide, by decide⟩ dX12_scanLeaf_61 rfl (fun H locs hW hS => ?_)
          cases h
          exact w_iret C hW hS dX12_scanLeaf_64
        · rw [if_pos c48] at h
          refine lv_aload_n hx0 hb dX12_scanLeaf_51 rfl (lv_at hl 0 rfl) ?_
          refine lv_iconst (v := (3 : Int32)) hx0 hb dX12_scanLeaf_52 (by decide) ?_
          obtain ⟨v53, h53, h⟩ := bnd h
          try dsimp only at h
          refine w_callV (L := (LM E b)) (k := 0) (As := [.int (3 : Int32)]) (rest := []) C hW hS (show 0 < 18 by decide) cm0 kcX12 (mX12_fails (3 : Int32)  (up σ 0 0 (0 : Int32)) v53 h53) cwX12_fails cvX12_fails rfl mlX12_94 ⟨by decide, by decide⟩ rfl hl.1 (Nat.le_of_ble_eq_true rfl) ⟨by decide, by decide⟩ dX12_scanLeaf_53 rfl (fun H locs hW hS => ?_)
          cases h
          exact w_iret C hW hS dX12_scanLeaf_56
    · rw [if_pos c23] at h
      refine lv_aload_n hx0 hb dX12_scanLeaf_26 rfl (lv_at hl 0 rfl) ?_
      refine lv_iconst (v := (2 : Int32)) hx0 hb dX12_scanLeaf_27 (by decide) ?_
      obtain ⟨v28, h28, h⟩ := bnd h
      try dsimp only at h
      refine w_callV (L := (LM E b)) (k := 0) (As := [.int (2 : Int32)]) (rest := []) C hW hS (show 0 < 18 by decide) cm0 kcX12 (mX12_fails (2 : Int32)  (up σ 0 0 (0 : Int32)) v28 h28) cwX12_fails cvX12_fails rfl mlX12_94 ⟨by decide, by decide⟩ rfl hl.1 (Nat.le_of_ble_eq_true rfl) ⟨by decide, by decide⟩ dX12_scanLeaf_28 rfl (fun H locs hW hS => ?_)
      cases h
      exact w_iret C hW hS dX12_scanLeaf_31
  · rw [if_pos c10] at h
    refine lv_aload_n hx0 hb dX12_scanLeaf_13 rfl (lv_at hl 0 rfl) ?_
    refine lv_iconst (v := (1 : Int32)) hx0 hb dX12_scanLeaf_14 (by decide) ?_
    obtain ⟨v15, h15, h⟩ := bnd h
    try dsimp only at h
    refine w_callV (L := (LM E b)) (k := 0) (As := [.int (1 : Int32)]) (rest := []) C hW hS (show 0 < 18 by decide) cm0 kcX12 (mX12_fails (1 : Int32)  (up σ 0 0 (0 : Int32)) v15 h15) cwX12_fails cvX12_fails rfl mlX12_94 ⟨by decide, by decide⟩ rfl hl.1 (Nat.le_of_ble_eq_true rfl) ⟨by decide, by decide⟩ dX12_scanLeaf_15 rfl (fun H locs hW hS => ?_)
    cases h
    exact w_iret C hW hS dX12_scanLeaf_18
def fX12_openings (σ : Mem) : Option Int32 :=
  (fX12_present σ).bind fun v1 => some (v1 + (1 : Int32))
set_option maxRecDepth 100000 in
set_option maxHeartbeats 4000000 in
theorem mX12_openings {l : Launch} {E : Ev} {b : Nat} (σ : Mem) (r : Int32) (h : fX12_openings σ = some r) : Met l yX12_openings (tw yX12_openings cX12_openings 1 (some .int)) { frames := 2, cells := 0, slots := 0, locals := 44 } (va_Pc [.ref (b + 0)] (Pr l E (LM E b) σ)) (Qz E (LM E b) (some (.int r)) σ) 0 0 (La (LM E b)) := by
  refine ct_of (by decide) (Nat.le_of_ble_eq_true rfl) ?_
  intro p e s m below meth c C hW hS ls hl
  have hx0 := C.1
  have hb := C.2.1
  have hl : lv_has ls 1 [(0, .ref (b + 0))] := hl
  unfold fX12_openings at h
  refine lv_aload_n hx0 hb dX12_openings_0 rfl (lv_at hl 0 rfl) ?_
  obtain ⟨v1, h1, h⟩ := bnd h
  try dsimp only at h
  refine w_callV (L := (LM E b)) (k := 0) (As := []) (rest := []) C hW hS (show 0 < 18 by decide) cm0 kcX12 (mX12_present   σ v1 h1) cwX12_present cvX12_present rfl mlX12_306 ⟨by decide, by decide⟩ rfl hl.1 (Nat.le_of_ble_eq_true rfl) ⟨by decide, by decide⟩ dX12_openings_1 rfl (fun H locs hW hS => ?_)
  refine lv_iconst (v := (1 : Int32)) hx0 hb dX12_openings_4 (by decide) ?_
  refine lv_iadd hx0 hb dX12_openings_5 ?_
  cases h
  exact w_iret C hW hS dX12_openings_6
def fX12_isOpening (x1 : Int32) (σ : Mem) : Option Int32 :=
  (fX12_openings σ).bind fun v4 => (fX12_isIn x1.toInt64 (0 : Int64) ((v4 - (1 : Int32)).toInt64) σ).bind fun v10 => if v10 = 0 ∨ v10 = 1 then some v10 else none
set_option maxRecDepth 100000 in
set_option maxHeartbeats 4000000 in
theorem mX12_isOpening {l : Launch} {E : Ev} {b : Nat} (x1 : Int32) (σ : Mem) (r : Int32) (h : fX12_isOpening x1 σ = some r) : Met l yX12_isOpening (tw yX12_isOpening cX12_isOpening 2 (some .boolean)) { frames := 3, cells := 0, slots := 0, locals := 64 } (va_Pc [.ref (b + 0), .int x1] (Pr l E (LM E b) σ)) (Qz E (LM E b) (some (.int r)) σ) 0 0 (La (LM E b)) := by
  refine ct_of (by decide) (Nat.le_of_ble_eq_true rfl) ?_
  intro p e s m below meth c C hW hS ls hl
  have hx0 := C.1
  have hb := C.2.1
  have hl : lv_has ls 2 [(0, .ref (b + 0)), (1, .int x1)] := hl
  unfold fX12_isOpening at h
  refine lv_iload_n hx0 hb dX12_isOpening_0 rfl (lv_at hl 1 rfl) ?_
  refine lv_i2l hx0 hb dX12_isOpening_1 rfl ?_
  refine lv_lconst (v := (0 : Int64)) hx0 hb dX12_isOpening_2 (by decide) ?_
  refine lv_aload_n hx0 hb dX12_isOpening_3 rfl (lv_at hl 0 rfl) ?_
  obtain ⟨v4, h4, h⟩ := bnd h
  try dsimp only at h
  refine w_callV (L := (LM E b)) (k := 0) (As := []) (rest := [.long (0 : Int64), .long x1.toInt64]) C hW hS (show 0 < 18 by decide) cm0 kcX12 (mX12_openings   σ v4 h4) cwX12_openings cvX12_openings rfl mlX12_351 ⟨by decide, by decide⟩ rfl hl.1 (Nat.le_of_ble_eq_true rfl) ⟨by decide, by decide⟩ dX12_isOpening_4 rfl (fun H locs hW hS => ?_)
  refine lv_iconst (v := (1 : Int32)) hx0 hb dX12_isOpening_7 (by decide) ?_
  refine lv_isub hx0 hb dX12_isOpening_8 ?_
  refine lv_i2l hx0 hb dX12_isOpening_9 rfl ?_
  obtain ⟨v10, h10, h⟩ := bnd h
  try dsimp only at h
  refine w_callS (L := (LM E b)) (As := [.long x1.toInt64, .long (0 : Int64), .long ((v4 - (1 : Int32)).toInt64)]) (rest := []) C hW hS (mX12_isIn x1.toInt64 (0 : Int64) ((v4 - (1 : Int32)).toInt64)  σ v10 h10) cwX12_isIn csX12_isIn mlX12_101 ⟨by decide, by decide⟩ rfl hl.1 (Nat.le_of_ble_eq_true rfl) ⟨by decide, by decide⟩ dX12_isOpening_10 rfl (fun H locs hW hS => ?_)
  by_cases z13 : v10 = 0 ∨ v10 = 1
  case neg => rw [if_neg z13] at h; cases h
  rw [if_pos z13] at h
  cases h
  exact w_zret C hW hS z13 dX12_isOpening_13
def fX12_presentAt_l4 (x1 : Int32) : Nat → Int32 → Int32 → Mem → Option (Int32 ⊕ (Int32 × Int32))
  | 0, _, _, _ => none
  | n + 1, x2, x3, σ => (fX12_leaves σ).bind fun v6 => if v6 ≤ x3 then (some (.inr (x2, x3))) else (if x1 < 0 then (some (.inr (x2, x3))) else ((fX12_isPresent x3 σ).bind fun v18 => if v18 = 0 then (fX12_presentAt_l4 x1 n x2 (x3 + (1 : Int32)) σ) else (if x2 = 0 then (some (.inl x3)) else (fX12_presentAt_l4 x1 n (x2 + (-1 : Int32)) (x3 + (1 : Int32)) σ))))
set_option maxRecDepth 100000 in
set_option maxHeartbeats 4000000 in
theorem bX12_presentAt_l4 {p : Program} {l : Launch} {e : Env} {s : State} {m : MethodId} {args : Array Value} {below : List Frame} {meth : Method} {c : Code} {E : Ev} {b : Nat} (C : Cx p l s m args meth c E cX12_presentAt 4 RX12 (some .int)) (x1 : Int32) (σ : Mem) (r0 : Int32) {q0 : Int32 ⊕ (Int32 × Int32)} (hr : ∀ r, q0 = .inl r → r = r0) (hx : ∀ q, q0 = .inr q → ∀ H locs ls, Wd E (LM E b) σ H → va_S (La (LM E b)) s.heap H locs → lv_has ls 4 [(0, .ref (b + 0)), (1, .int x1), (2, .int q.1), (3, .int q.2)] → W p l e { frames := 1, cells := 0, slots := 0, locals := 22 } s m args below meth c H locs 0 0 (MQ below (Qz E (LM E b) (some (.int r0)) σ) args s 0 0 (La (LM E b))) (F0 m 42 ls [])) : ∀ (n : Nat) (x2 : Int32) (x3 : Int32), fX12_presentAt_l4 x1 n x2 x3 σ = some q0 → ∀ (H : Heap) (locs : List Loc) (ls : Array Slot), Wd E (LM E b) σ H → va_S (La (LM E b)) s.heap H locs → lv_has ls 4 [(0, .ref (b + 0)), (1, .int x1), (2, .int x2), (3, .int x3)] → W p l e { frames := 1, cells := 0, slots := 0, locals := 22 } s m args below meth c H locs 0 0 (MQ below (Qz E (LM E b) (some (.int r0)) σ) args s 0 0 (La (LM E b))) (F0 m 4 ls []) := by
  have hx0 := C.1
  have hb := C.2.1
  intro n
  induction n with
  | zero => intro x2 x3 h; simp [fX12_presentAt_l4] at h
  | succ n ih =>
    intro x2 x3 h H locs ls hW hS hl
    unfold fX12_presentAt_l4 at h
    refine lv_iload_n hx0 hb dX12_presentAt_4 rfl (lv_at hl 3 rfl) ?_
    refine lv_aload_n hx0 hb dX12_presentAt_5 rfl (lv_at hl 0 rfl) ?_
    obtain ⟨v6, h6, h⟩ := bnd h
    try dsimp only at h
    refine w_callV (L := (LM E b)) (k := 0) (As := []) (rest := [.int x3]) C hW hS (show 0 < 18 by decide) cm0 kcX12 (mX12_leaves   σ v6 h6) cwX12_leaves cvX12_leaves rfl mlX12_212 ⟨by decide, by decide⟩ rfl hl.1 (Nat.le_of_ble_eq_true rfl) ⟨by decide, by decide⟩ dX12_presentAt_6 rfl (fun H locs hW hS => ?_)
    refine lv_icmp_ge (tgt := 42) hx0 hb dX12_presentAt_9 (by decide) (fun c9 => ?_) (fun c9 => ?_)
    · rw [if_pos c9] at h
      cases h
      exact hx _ rfl _ _ _ hW hS (lv_sub hl [0, 1, 2, 3] rfl)
    · rw [if_neg c9] at h
      refine lv_iload_n hx0 hb dX12_presentAt_12 rfl (lv_at hl 1 rfl) ?_
      refine lv_if_lt (tgt := 42) hx0 hb dX12_presentAt_13 (by decide) (fun c13 => ?_) (fun c13 => ?_)
      · rw [if_pos c13] at h
        cases h
        exact hx _ rfl _ _ _ hW hS (lv_sub hl [0, 1, 2, 3] rfl)
      · rw [if_neg c13] at h
        refine lv_aload_n hx0 hb dX12_presentAt_16 rfl (lv_at hl 0 rfl) ?_
        refine lv_iload_n hx0 hb dX12_presentAt_17 rfl (lv_at hl 3 rfl) ?_
        obtain ⟨v18, h18, h⟩ := bnd h
        try dsimp only at h
        refine w_callV (L := (LM E b)) (k := 0) (As := [.int x3]) (rest := []) C hW hS (show 0 < 18 by decide) cm0 kcX12 (mX12_isPresent x3  σ v18 h18) cwX12_isPresent cvX12_isPresent rfl mlX12_215 ⟨by decide, by decide⟩ rfl hl.1 (Nat.le_of_ble_eq_true rfl) ⟨by decide, by decide⟩ dX12_presentAt_18 rfl (fun H locs hW hS => ?_)
        refine lv_if_ne (tgt := 27) hx0 hb dX12_presentAt_21 (by decide) (fun c21 => ?_) (fun c21 => ?_)
        · rw [if_neg c21] at h
          refine lv_iload_n hx0 hb dX12_presentAt_27 rfl (lv_at hl 2 rfl) ?_
          refine lv_if_ne (tgt := 33) hx0 hb dX12_presentAt_28 (by decide) (fun c28 => ?_) (fun c28 => ?_)
          · rw [if_neg c28] at h
            refine lv_iinc (v := x2 + (-1 : Int32)) (lv' := [(2, .int (x2 + (-1 : Int32))), (0, .ref (b + 0)), (1, .int x1), (3, .int x3)]) hx0 hb dX12_presentAt_33 hl (k := 2) rfl rfl (by decide) rfl (fun ls hl => ?_)
            refine lv_iinc (v := x3 + (1 : Int32)) (lv' := [(3, .int (x3 + (1 : Int32))), (2, .int (x2 + (-1 : Int32))), (0, .ref (b + 0)), (1, .int x1)]) hx0 hb dX12_presentAt_36 hl (k := 3) rfl rfl (by decide) rfl (fun ls hl => ?_)
            refine lv_goto (tgt := 4) hx0 hb dX12_presentAt_39 (by decide) ?_
            exact ih (x2 + (-1 : Int32)) (x3 + (1 : Int32)) h _ _ _ hW hS (lv_sub hl [2, 3, 1, 0] rfl)
          · rw [if_pos c28] at h
            refine lv_iload_n hx0 hb dX12_presentAt_31 rfl (lv_at hl 3 rfl) ?_
            cases h
            cases hr _ rfl
            exact w_iret C hW hS dX12_presentAt_32
        · rw [if_pos c21] at h
          refine lv_goto (tgt := 36) hx0 hb dX12_presentAt_24 (by decide) ?_
          refine lv_iinc (v := x3 + (1 : Int32)) (lv' := [(3, .int (x3 + (1 : Int32))), (0, .ref (b + 0)), (1, .int x1), (2, .int x2)]) hx0 hb dX12_presentAt_36 hl (k := 3) rfl rfl (by decide) rfl (fun ls hl => ?_)
          refine lv_goto (tgt := 4) hx0 hb dX12_presentAt_39 (by decide) ?_
          exact ih x2 (x3 + (1 : Int32)) h _ _ _ hW hS (lv_sub hl [1, 2, 3, 0] rfl)
def fX12_presentAt (x1 : Int32) (σ : Mem) : Option Int32 :=
  (fX12_presentAt_l4 x1 FU x1 (0 : Int32) σ).bind fun q4 => match q4 with | .inl r => some r | .inr q4 => some (-1 : Int32)
set_option maxRecDepth 100000 in
set_option maxHeartbeats 4000000 in
theorem mX12_presentAt {l : Launch} {E : Ev} {b : Nat} (x1 : Int32) (σ : Mem) (r : Int32) (h : fX12_presentAt x1 σ = some r) : Met l yX12_presentAt (tw yX12_presentAt cX12_presentAt 4 (some .int)) { frames := 1, cells := 0, slots := 0, locals := 22 } (va_Pc [.ref (b + 0), .int x1] (Pr l E (LM E b) σ)) (Qz E (LM E b) (some (.int r)) σ) 0 0 (La (LM E b)) := by
  refine ct_of (by decide) (Nat.le_of_ble_eq_true rfl) ?_
  intro p e s m below meth c C hW hS ls hl
  have hx0 := C.1
  have hb := C.2.1
  have hl : lv_has ls 4 [(0, .ref (b + 0)), (1, .int x1)] := hl
  unfold fX12_presentAt at h
  refine lv_iload_n hx0 hb dX12_presentAt_0 rfl (lv_at hl 1 rfl) ?_
  refine lv_istore_n (lv' := [(2, .int x1), (0, .ref (b + 0)), (1, .int x1)]) hx0 hb dX12_presentAt_1 rfl hl (by decide) rfl (fun ls hl => ?_)
  refine lv_iconst (v := (0 : Int32)) hx0 hb dX12_presentAt_2 (by decide) ?_
  refine lv_istore_n (lv' := [(3, .int (0 : Int32)), (2, .int x1), (0, .ref (b + 0)), (1, .int x1)]) hx0 hb dX12_presentAt_3 rfl hl (by decide) rfl (fun ls hl => ?_)
  obtain ⟨q4, h4, h⟩ := bnd h
  refine bX12_presentAt_l4 C x1  σ r (q0 := q4) ?_ ?_ FU x1 (0 : Int32) h4 _ _ _ hW hS (lv_sub hl [2, 3, 1, 0] rfl)
  · intro r1 hq; subst hq; (try dsimp only at h); exact Option.some.inj h
  · intro q4 hq H locs ls hW hS hl
    subst hq; try dsimp only at h
    refine lv_iconst (v := (-1 : Int32)) hx0 hb dX12_presentAt_42 (by decide) ?_
    cases h
    exact w_iret C hW hS dX12_presentAt_43
def fX12_leftOf (x1 : Int32) (σ : Mem) : Option Int32 :=
  (fX12_presentAt (x1 - (1 : Int32)) σ).bind fun v4 => some v4
set_option maxRecDepth 100000 in
set_option maxHeartbeats 4000000 in
theorem mX12_leftOf {l : Launch} {E : Ev} {b : Nat} (x1 : Int32) (σ : Mem) (r : Int32) (h : fX12_leftOf x1 σ = some r) : Met l yX12_leftOf (tw yX12_leftOf cX12_leftOf 2 (some .int)) { frames := 2, cells := 0, slots := 0, locals := 45 } (va_Pc [.ref (b + 0), .int x1] (Pr l E (LM E b) σ)) (Qz E (LM E b) (some (.int r)) σ) 0 0 (La (LM E b)) := by
  refine ct_of (by decide) (Nat.le_of_ble_eq_true rfl) ?_
  intro p e s m below meth c C hW hS ls hl
  have hx0 := C.1
  have hb := C.2.1
  have hl : lv_has ls 2 [(0, .ref (b + 0)), (1, .int x1)] := hl
  unfold fX12_leftOf at h
  refine lv_aload_n hx0 hb dX12_leftOf_0 rfl (lv_at hl 0 rfl) ?_
  refine lv_iload_n hx0 hb dX12_leftOf_1 rfl (lv_at hl 1 rfl) ?_
  refine lv_iconst (v := (1 : Int32)) hx0 hb dX12_leftOf_2 (by decide) ?_
  refine lv_isub hx0 hb dX12_leftOf_3 ?_
  obtain ⟨v4, h4, h⟩ := bnd h
  try dsimp only at h
  refine w_callV (L := (LM E b)) (k := 0) (As := [.int (x1 - (1 : Int32))]) (rest := []) C hW hS (show 0 < 18 by decide) cm0 kcX12 (mX12_presentAt (x1 - (1 : Int32))  σ v4 h4) cwX12_presentAt cvX12_presentAt rfl mlX12_354 ⟨by decide, by decide⟩ rfl hl.1 (Nat.le_of_ble_eq_true rfl) ⟨by decide, by decide⟩ dX12_leftOf_4 rfl (fun H locs hW hS => ?_)
  cases h
  exact w_iret C hW hS dX12_leftOf_7
def fX12_rightOf (x1 : Int32) (σ : Mem) : Option Int32 :=
  (fX12_presentAt x1 σ).bind fun v2 => some v2
set_option maxRecDepth 100000 in
set_option maxHeartbeats 4000000 in
theorem mX12_rightOf {l : Launch} {E : Ev} {b : Nat} (x1 : Int32) (σ : Mem) (r : Int32) (h : fX12_rightOf x1 σ = some r) : Met l yX12_rightOf (tw yX12_rightOf cX12_rightOf 2 (some .int)) { frames := 2, cells := 0, slots := 0, locals := 45 } (va_Pc [.ref (b + 0), .int x1] (Pr l E (LM E b) σ)) (Qz E (LM E b) (some (.int r)) σ) 0 0 (La (LM E b)) := by
  refine ct_of (by decide) (Nat.le_of_ble_eq_true rfl) ?_
  intro p e s m below meth c C hW hS ls hl
  have hx0 := C.1
  have hb := C.2.1
  have hl : lv_has ls 2 [(0, .ref (b + 0)), (1, .int x1)] := hl
  unfold fX12_rightOf at h
  refine lv_aload_n hx0 hb dX12_rightOf_0 rfl (lv_at hl 0 rfl) ?_
  refine lv_iload_n hx0 hb dX12_rightOf_1 rfl (lv_at hl 1 rfl) ?_
  obtain ⟨v2, h2, h⟩ := bnd h
  try dsimp only at h
  refine w_callV (L := (LM E b)) (k := 0) (As := [.int x1]) (rest := []) C hW hS (show 0 < 18 by decide) cm0 kcX12 (mX12_presentAt x1  σ v2 h2) cwX12_presentAt cvX12_presentAt rfl mlX12_354 ⟨by decide, by decide⟩ rfl hl.1 (Nat.le_of_ble_eq_true rfl) ⟨by decide, by decide⟩ dX12_rightOf_2 rfl (fun H locs hW hS => ?_)
  cases h
  exact w_iret C hW hS dX12_rightOf_5
def fX12_scanOpening_j41 (x2 : Int32) (x3 : Int32) (σ : Mem) : Option ((Int32 × Mem)) :=
  if (2 : Int32) < 0 ∨ lm 3 ≤ (2 : Int32).toNatClampNeg then none else if (σ 3 (2 : Int32).toNatClampNeg) = (60 : Int32) then ((fX12_fails (2 : Int32) σ).bind fun v54 => some (v54.1, v54.2)) else ((fX12_adds (1 : Int32) x2 x3 σ).bind fun v62 => some (v62.1, v62.2))
set_option maxRecDepth 100000 in
set_option maxHeartbeats 4000000 in
theorem bX12_scanOpening_j41 {p : Program} {l : Launch} {e : Env} {s : State} {m : MethodId} {args : Array Value} {below : List Frame} {meth : Method} {c : Code} {E : Ev} {b : Nat} (C : Cx p l s m args meth c E cX12_scanOpening 4 RX12 (some .int)) (x2 : Int32) (x3 : Int32) {r : (Int32 × Mem)} (σ : Mem) (h : fX12_scanOpening_j41 x2 x3 σ = some r) (H : Heap) (locs : List Loc) (ls : Array Slot) (hW : Wd E (LM E b) σ H) (hS : va_S (La (LM E b)) s.heap H locs) (hl : lv_has ls 4 [(0, .ref (b + 0)), (2, .int x2), (3, .int x3)]) : W p l e { frames := 4, cells := 0, slots := 0, locals := 85 } s m args below meth c H locs 0 0 (MQ below (Qz E (LM E b) (some (.int r.1)) r.2) args s 0 0 (La (LM E b))) (F0 m 41 ls []) := by
  have hx0 := C.1
  have hb := C.2.1
  unfold fX12_scanOpening_j41 at h
  refine lv_aload_n hx0 hb dX12_scanOpening_41 rfl (lv_at hl 0 rfl) ?_
  refine gtX12_5 C hW flX12_20 dX12_scanOpening_42 ?_
  refine lv_iconst (v := (2 : Int32)) hx0 hb dX12_scanOpening_45 (by decide) ?_
  by_cases z46 : (2 : Int32) < 0 ∨ lm 3 ≤ (2 : Int32).toNatClampNeg
  · rw [if_pos z46] at h; cases h
  rw [if_neg z46] at h
  refine ldIm (k := 3) C hW (by decide) z46 dX12_scanOpening_46 ?_
  refine lv_bipush (v := (60 : Int32)) hx0 hb dX12_scanOpening_47 (by decide) ?_
  refine lv_icmp_ne (tgt := 58) hx0 hb dX12_scanOpening_49 (by decide) (fun c49 => ?_) (fun c49 => ?_)
  · rw [if_neg c49] at h
    refine lv_aload_n hx0 hb dX12_scanOpening_58 rfl (lv_at hl 0 rfl) ?_
    refine lv_iconst (v := (1 : Int32)) hx0 hb dX12_scanOpening_59 (by decide) ?_
    refine lv_iload_n hx0 hb dX12_scanOpening_60 rfl (lv_at hl 1 rfl) ?_
    refine lv_iload_n hx0 hb dX12_scanOpening_61 rfl (lv_at hl 2 rfl) ?_
    obtain ⟨v62, h62, h⟩ := bnd h
    try dsimp only at h
    refine w_callV (L := (LM E b)) (k := 0) (As := [.int (1 : Int32), .int x2, .int x3]) (rest := []) C hW hS (show 0 < 18 by decide) cm0 kcX12 (mX12_adds (1 : Int32) x2 x3  σ v62 h62) cwX12_adds cvX12_adds rfl mlX12_324 ⟨by decide, by decide⟩ rfl hl.1 (Nat.le_of_ble_eq_true rfl) ⟨by decide, by decide⟩ dX12_scanOpening_62 rfl (fun H locs hW hS => ?_)
    cases h
    exact w_iret C hW hS dX12_scanOpening_65
  · rw [if_pos c49] at h
    refine lv_aload_n hx0 hb dX12_scanOpening_52 rfl (lv_at hl 0 rfl) ?_
    refine lv_iconst (v := (2 : Int32)) hx0 hb dX12_scanOpening_53 (by decide) ?_
    obtain ⟨v54, h54, h⟩ := bnd h
    try dsimp only at h
    refine w_callV (L := (LM E b)) (k := 0) (As := [.int (2 : Int32)]) (rest := []) C hW hS (show 0 < 18 by decide) cm0 kcX12 (mX12_fails (2 : Int32)  σ v54 h54) cwX12_fails cvX12_fails rfl mlX12_94 ⟨by decide, by decide⟩ rfl hl.1 (Nat.le_of_ble_eq_true rfl) ⟨by decide, by decide⟩ dX12_scanOpening_54 rfl (fun H locs hW hS => ?_)
    cases h
    exact w_iret C hW hS dX12_scanOpening_57
def fX12_scanOpening (x1 : Int32) (σ : Mem) : Option (Int32 × Mem) :=
  (fX12_isOpening x1 (up σ 0 0 (0 : Int32))).bind fun v7 => if v7 = 0 then ((fX12_fails (1 : Int32) (up σ 0 0 (0 : Int32))).bind fun v15 => some (v15.1, v15.2)) else ((fX12_leftOf x1 (up σ 0 0 (0 : Int32))).bind fun v21 => (fX12_rightOf x1 (up σ 0 0 (0 : Int32))).bind fun v27 => if v21 = (-1 : Int32) then (if v27 = (-1 : Int32) then ((fX12_fails (2 : Int32) (up σ 0 0 (0 : Int32))).bind fun v54 => some (v54.1, v54.2)) else (fX12_scanOpening_j41 v21 v27 (up σ 0 0 (0 : Int32)))) else (fX12_scanOpening_j41 v21 v27 (up σ 0 0 (0 : Int32))))
set_option maxRecDepth 100000 in
set_option maxHeartbeats 4000000 in
theorem mX12_scanOpening {l : Launch} {E : Ev} {b : Nat} (x1 : Int32) (σ : Mem) (r : (Int32 × Mem)) (h : fX12_scanOpening x1 σ = some r) : Met l yX12_scanOpening (tw yX12_scanOpening cX12_scanOpening 4 (some .int)) { frames := 4, cells := 0, slots := 0, locals := 85 } (va_Pc [.ref (b + 0), .int x1] (Pr l E (LM E b) σ)) (Qz E (LM E b) (some (.int r.1)) r.2) 0 0 (La (LM E b)) := by
  refine ct_of (by decide) (Nat.le_of_ble_eq_true rfl) ?_
  intro p e s m below meth c C hW hS ls hl
  have hx0 := C.1
  have hb := C.2.1
  have hl : lv_has ls 4 [(0, .ref (b + 0)), (1, .int x1)] := hl
  unfold fX12_scanOpening at h
  refine lv_aload_n hx0 hb dX12_scanOpening_0 rfl (lv_at hl 0 rfl) ?_
  refine lv_iconst (v := (0 : Int32)) hx0 hb dX12_scanOpening_1 (by decide) ?_
  refine ptX12_0 C hW hS flX12_3 dX12_scanOpening_2 (fun H locs hW hS => ?_)
  refine lv_aload_n hx0 hb dX12_scanOpening_5 rfl (lv_at hl 0 rfl) ?_
  refine lv_iload_n hx0 hb dX12_scanOpening_6 rfl (lv_at hl 1 rfl) ?_
  obtain ⟨v7, h7, h⟩ := bnd h
  try dsimp only at h
  refine w_callV (L := (LM E b)) (k := 0) (As := [.int x1]) (rest := []) C hW hS (show 0 < 18 by decide) cm0 kcX12 (mX12_isOpening x1  (up σ 0 0 (0 : Int32)) v7 h7) cwX12_isOpening cvX12_isOpening rfl mlX12_327 ⟨by decide, by decide⟩ rfl hl.1 (Nat.le_of_ble_eq_true rfl) ⟨by decide, by decide⟩ dX12_scanOpening_7 rfl (fun H locs hW hS => ?_)
  refine lv_if_ne (tgt := 19) hx0 hb dX12_scanOpening_10 (by decide) (fun c10 => ?_) (fun c10 => ?_)
  · rw [if_neg c10] at h
    refine lv_aload_n hx0 hb dX12_scanOpening_19 rfl (lv_at hl 0 rfl) ?_
    refine lv_iload_n hx0 hb dX12_scanOpening_20 rfl (lv_at hl 1 rfl) ?_
    obtain ⟨v21, h21, h⟩ := bnd h
    try dsimp only at h
    refine w_callV (L := (LM E b)) (k := 0) (As := [.int x1]) (rest := []) C hW hS (show 0 < 18 by decide) cm0 kcX12 (mX12_leftOf x1  (up σ 0 0 (0 : Int32)) v21 h21) cwX12_leftOf cvX12_leftOf rfl mlX12_330 ⟨by decide, by decide⟩ rfl hl.1 (Nat.le_of_ble_eq_true rfl) ⟨by decide, by decide⟩ dX12_scanOpening_21 rfl (fun H locs hW hS => ?_)
    refine lv_istore_n (lv' := [(2, .int v21), (0, .ref (b + 0)), (1, .int x1)]) hx0 hb dX12_scanOpening_24 rfl hl (by decide) rfl (fun ls hl => ?_)
    refine lv_aload_n hx0 hb dX12_scanOpening_25 rfl (lv_at hl 1 rfl) ?_
    refine lv_iload_n hx0 hb dX12_scanOpening_26 rfl (lv_at hl 2 rfl) ?_
    obtain ⟨v27, h27, h⟩ := bnd h
    try dsimp only at h
    refine w_callV (L := (LM E b)) (k := 0) (As := [.int x1]) (rest := []) C hW hS (show 0 < 18 by decide) cm0 kcX12 (mX12_rightOf x1  (up σ 0 0 (0 : Int32)) v27 h27) cwX12_rightOf cvX12_rightOf rfl mlX12_333 ⟨by decide, by decide⟩ rfl hl.1 (Nat.le_of_ble_eq_true rfl) ⟨by decide, by decide⟩ dX12_scanOpening_27 rfl (fun H locs hW hS => ?_)
    refine lv_istore_n (lv' := [(3, .int v27), (2, .int v21), (0, .ref (b + 0)), (1, .int x1)]) hx0 hb dX12_scanOpening_30 rfl hl (by decide) rfl (fun ls hl => ?_)
    refine lv_iload_n hx0 hb dX12_scanOpening_31 rfl (lv_at hl 1 rfl) ?_
    refine lv_iconst (v := (-1 : Int32)) hx0 hb dX12_scanOpening_32 (by decide) ?_
    refine lv_icmp_ne (tgt := 41) hx0 hb dX12_scanOpening_33 (by decide) (fun c33 => ?_) (fun c33 => ?_)
    · rw [if_neg c33] at h
      exact bX12_scanOpening_j41 C v21 v27 (up σ 0 0 (0 : Int32)) h _ _ _ hW hS (lv_sub hl [2, 1, 0] rfl)
    · rw [if_pos c33] at h
      refine lv_iload_n hx0 hb dX12_scanOpening_36 rfl (lv_at hl 0 rfl) ?_
      refine lv_iconst (v := (-1 : Int32)) hx0 hb dX12_scanOpening_37 (by decide) ?_
      refine lv_icmp_eq (tgt := 52) hx0 hb dX12_scanOpening_38 (by decide) (fun c38 => ?_) (fun c38 => ?_)
      · rw [if_pos c38] at h
        refine lv_aload_n hx0 hb dX12_scanOpening_52 rfl (lv_at hl 2 rfl) ?_
        refine lv_iconst (v := (2 : Int32)) hx0 hb dX12_scanOpening_53 (by decide) ?_
        obtain ⟨v54, h54, h⟩ := bnd h
        try dsimp only at h
        refine w_callV (L := (LM E b)) (k := 0) (As := [.int (2 : Int32)]) (rest := []) C hW hS (show 0 < 18 by decide) cm0 kcX12 (mX12_fails (2 : Int32)  (up σ 0 0 (0 : Int32)) v54 h54) cwX12_fails cvX12_fails rfl mlX12_94 ⟨by decide, by decide⟩ rfl hl.1 (Nat.le_of_ble_eq_true rfl) ⟨by decide, by decide⟩ dX12_scanOpening_54 rfl (fun H locs hW hS => ?_)
        cases h
        exact w_iret C hW hS dX12_scanOpening_57
      · rw [if_neg c38] at h
        exact bX12_scanOpening_j41 C v21 v27 (up σ 0 0 (0 : Int32)) h _ _ _ hW hS (lv_sub hl [2, 1, 0] rfl)
  · rw [if_pos c10] at h
    refine lv_aload_n hx0 hb dX12_scanOpening_13 rfl (lv_at hl 0 rfl) ?_
    refine lv_iconst (v := (1 : Int32)) hx0 hb dX12_scanOpening_14 (by decide) ?_
    obtain ⟨v15, h15, h⟩ := bnd h
    try dsimp only at h
    refine w_callV (L := (LM E b)) (k := 0) (As := [.int (1 : Int32)]) (rest := []) C hW hS (show 0 < 18 by decide) cm0 kcX12 (mX12_fails (1 : Int32)  (up σ 0 0 (0 : Int32)) v15 h15) cwX12_fails cvX12_fails rfl mlX12_94 ⟨by decide, by decide⟩ rfl hl.1 (Nat.le_of_ble_eq_true rfl) ⟨by decide, by decide⟩ dX12_scanOpening_15 rfl (fun H locs hW hS => ?_)
    cases h
    exact w_iret C hW hS dX12_scanOpening_18
