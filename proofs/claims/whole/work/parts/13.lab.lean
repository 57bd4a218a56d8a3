/-! PageArchive$Labels, by program out of the bytecode -/
def fX1_clear (o0 : Nat) (σ : Mem) : Option Mem :=
  some (up σ o0 4 (0 : Int32))
set_option maxRecDepth 100000 in
set_option maxHeartbeats 4000000 in
theorem mX1_clear {l : Launch} {E : Ev} {b : Nat} (o0 : Nat) (ho0 : kd o0 = 1) (σ : Mem) (r : Mem) (h : fX1_clear o0 σ = some r) : Met l yX1_clear (tw yX1_clear cX1_clear 1 none) { frames := 0, cells := 0, slots := 0, locals := 0 } (va_Pc [.ref (b + o0)] (Pr l E (LC E b) σ)) (Qz E (LC E b) none r) 0 0 (La (LC E b)) := by
  refine ct_of (by decide) (Nat.le_of_ble_eq_true rfl) ?_
  intro p e s m below meth c C hW hS ls hl
  have hx0 := C.1
  have hb := C.2.1
  have hl : lv_has ls 1 [(0, .ref (b + o0))] := hl
  unfold fX1_clear at h
  refine lv_aload_n hx0 hb dX1_clear_0 rfl (lv_at hl 0 rfl) ?_
  refine lv_iconst (v := (0 : Int32)) hx0 hb dX1_clear_1 (by decide) ?_
  refine ptX1_4 (k := o0) C hW hS ho0 flX1_29 dX1_clear_2 (fun H locs hW hS => ?_)
  cases h
  exact w_vret C hW hS dX1_clear_5
def fX1_copyFrom (o0 : Nat) (o1 : Nat) (σ : Mem) : Option Mem :=
  (fX3_copyFrom (o0 + 1) (o1 + 1) σ).bind fun v8 => (fX3_copyFrom (o0 + 3) (o1 + 3) v8).bind fun v19 => (fX3_copyFrom (o0 + 5) (o1 + 5) v19).bind fun v30 => (fX3_copyFrom (o0 + 7) (o1 + 7) v30).bind fun v41 => some (up v41 o0 4 (v41 o1 4))
set_option maxRecDepth 100000 in
set_option maxHeartbeats 4000000 in
theorem mX1_copyFrom {l : Launch} {E : Ev} {b : Nat} (o0 : Nat) (o1 : Nat) (ho0 : kd o0 = 1) (ho1 : kd o1 = 1) (σ : Mem) (r : Mem) (h : fX1_copyFrom o0 o1 σ = some r) : Met l yX1_copyFrom (tw yX1_copyFrom cX1_copyFrom 2 none) { frames := 2, cells := 0, slots := 0, locals := 62 } (va_Pc [.ref (b + o0), .ref (b + o1)] (Pr l E (LC E b) σ)) (Qz E (LC E b) none r) 0 0 (La (LC E b)) := by
  refine ct_of (by decide) (Nat.le_of_ble_eq_true rfl) ?_
  intro p e s m below meth c C hW hS ls hl
  have hx0 := C.1
  have hb := C.2.1
  have hl : lv_has ls 2 [(0, .ref (b + o0)), (1, .ref (b + o1))] := hl
  unfold fX1_copyFrom at h
  refine lv_aload_n hx0 hb dX1_copyFrom_0 rfl (lv_at hl 0 rfl) ?_
  refine gtX1_0 (k := o0) C hW ho0 flX1_14 dX1_copyFrom_1 ?_
  refine lv_aload_n hx0 hb dX1_copyFrom_4 rfl (lv_at hl 1 rfl) ?_
  refine gtX1_0 (k := o1) C hW ho1 flX1_14 dX1_copyFrom_5 ?_
  obtain ⟨v8, h8, h⟩ := bnd h
  try dsimp only at h
  refine w_callV (L := (LC E b)) (k := o0 + 1) (As := [.ref (b + (o1 + 1))]) (rest := []) C hW hS (kdlt (chX1_0 ho0) (by decide)) (ccX3 (chX1_0 ho0)) kcX3 (mX3_copyFrom (o0 + 1) (o1 + 1) (chX1_0 ho0) (chX1_0 ho1) σ v8 h8) cwX3_copyFrom cvX3_copyFrom rfl mlX1_33 ⟨by decide, by decide⟩ rfl hl.1 (Nat.le_of_ble_eq_true rfl) ⟨by decide, by decide⟩ dX1_copyFrom_8 rfl (fun H locs hW hS => ?_)
  refine lv_aload_n hx0 hb dX1_copyFrom_11 rfl (lv_at hl 0 rfl) ?_
  refine gtX1_1 (k := o0) C hW ho0 flX1_20 dX1_copyFrom_12 ?_
  refine lv_aload_n hx0 hb dX1_copyFrom_15 rfl (lv_at hl 1 rfl) ?_
  refine gtX1_1 (k := o1) C hW ho1 flX1_20 dX1_copyFrom_16 ?_
  obtain ⟨v19, h19, h⟩ := bnd h
  try dsimp only at h
  refine w_callV (L := (LC E b)) (k := o0 + 3) (As := [.ref (b + (o1 + 3))]) (rest := []) C hW hS (kdlt (chX1_1 ho0) (by decide)) (ccX3 (chX1_1 ho0)) kcX3 (mX3_copyFrom (o0 + 3) (o1 + 3) (chX1_1 ho0) (chX1_1 ho1) v8 v19 h19) cwX3_copyFrom cvX3_copyFrom rfl mlX1_33 ⟨by decide, by decide⟩ rfl hl.1 (Nat.le_of_ble_eq_true rfl) ⟨by decide, by decide⟩ dX1_copyFrom_19 rfl (fun H locs hW hS => ?_)
  refine lv_aload_n hx0 hb dX1_copyFrom_22 rfl (lv_at hl 0 rfl) ?_
  refine gtX1_2 (k := o0) C hW ho0 flX1_23 dX1_copyFrom_23 ?_
  refine lv_aload_n hx0 hb dX1_copyFrom_26 rfl (lv_at hl 1 rfl) ?_
  refine gtX1_2 (k := o1) C hW ho1 flX1_23 dX1_copyFrom_27 ?_
  obtain ⟨v30, h30, h⟩ := bnd h
  try dsimp only at h
  refine w_callV (L := (LC E b)) (k := o0 + 5) (As := [.ref (b + (o1 + 5))]) (rest := []) C hW hS (kdlt (chX1_2 ho0) (by decide)) (ccX3 (chX1_2 ho0)) kcX3 (mX3_copyFrom (o0 + 5) (o1 + 5) (chX1_2 ho0) (chX1_2 ho1) v19 v30 h30) cwX3_copyFrom cvX3_copyFrom rfl mlX1_33 ⟨by decide, by decide⟩ rfl hl.1 (Nat.le_of_ble_eq_true rfl) ⟨by decide, by decide⟩ dX1_copyFrom_30 rfl (fun H locs hW hS => ?_)
  refine lv_aload_n hx0 hb dX1_copyFrom_33 rfl (lv_at hl 0 rfl) ?_
  refine gtX1_3 (k := o0) C hW ho0 flX1_26 dX1_copyFrom_34 ?_
  refine lv_aload_n hx0 hb dX1_copyFrom_37 rfl (lv_at hl 1 rfl) ?_
  refine gtX1_3 (k := o1) C hW ho1 flX1_26 dX1_copyFrom_38 ?_
  obtain ⟨v41, h41, h⟩ := bnd h
  try dsimp only at h
  refine w_callV (L := (LC E b)) (k := o0 + 7) (As := [.ref (b + (o1 + 7))]) (rest := []) C hW hS (kdlt (chX1_3 ho0) (by decide)) (ccX3 (chX1_3 ho0)) kcX3 (mX3_copyFrom (o0 + 7) (o1 + 7) (chX1_3 ho0) (chX1_3 ho1) v30 v41 h41) cwX3_copyFrom cvX3_copyFrom rfl mlX1_33 ⟨by decide, by decide⟩ rfl hl.1 (Nat.le_of_ble_eq_true rfl) ⟨by decide, by decide⟩ dX1_copyFrom_41 rfl (fun H locs hW hS => ?_)
  refine lv_aload_n hx0 hb dX1_copyFrom_44 rfl (lv_at hl 0 rfl) ?_
  refine lv_aload_n hx0 hb dX1_copyFrom_45 rfl (lv_at hl 1 rfl) ?_
  refine gtX1_4 (k := o1) C hW ho1 flX1_29 dX1_copyFrom_46 ?_
  refine ptX1_4 (k := o0) C hW hS ho0 flX1_29 dX1_copyFrom_49 (fun H locs hW hS => ?_)
  cases h
  exact w_vret C hW hS dX1_copyFrom_52
def fX1_size (o0 : Nat) (σ : Mem) : Option Int32 :=
  some (σ o0 4)
set_option maxRecDepth 100000 in
set_option maxHeartbeats 4000000 in
theorem mX1_size {l : Launch} {E : Ev} {b : Nat} (o0 : Nat) (ho0 : kd o0 = 1) (σ : Mem) (r : Int32) (h : fX1_size o0 σ = some r) : Met l yX1_size (tw yX1_size cX1_size 1 (some .int)) { frames := 0, cells := 0, slots := 0, locals := 0 } (va_Pc [.ref (b + o0)] (Pr l E (LC E b) σ)) (Qz E (LC E b) (some (.int r)) σ) 0 0 (La (LC E b)) := by
  refine ct_of (by decide) (Nat.le_of_ble_eq_true rfl) ?_
  intro p e s m below meth c C hW hS ls hl
  have hx0 := C.1
  have hb := C.2.1
  have hl : lv_has ls 1 [(0, .ref (b + o0))] := hl
  unfold fX1_size at h
  refine lv_aload_n hx0 hb dX1_size_0 rfl (lv_at hl 0 rfl) ?_
  refine gtX1_4 (k := o0) C hW ho0 flX1_29 dX1_size_1 ?_
  cases h
  exact w_iret C hW hS dX1_size_4
def fX1_takesRange (o0 : Nat) (σ : Mem) : Option Int32 :=
  if (12 : Int32) ≤ (σ o0 4) then (some (0 : Int32)) else (some (1 : Int32))
set_option maxRecDepth 100000 in
set_option maxHeartbeats 4000000 in
theorem mX1_takesRange {l : Launch} {E : Ev} {b : Nat} (o0 : Nat) (ho0 : kd o0 = 1) (σ : Mem) (r : Int32) (h : fX1_takesRange o0 σ = some r) : Met l yX1_takesRange (tw yX1_takesRange cX1_takesRange 1 (some .boolean)) { frames := 0, cells := 0, slots := 0, locals := 0 } (va_Pc [.ref (b + o0)] (Pr l E (LC E b) σ)) (Qz E (LC E b) (some (.int r)) σ) 0 0 (La (LC E b)) := by
  refine ct_of (by decide) (Nat.le_of_ble_eq_true rfl) ?_
  intro p e s m below meth c C hW hS ls hl
  have hx0 := C.1
  have hb := C.2.1
  have hl : lv_has ls 1 [(0, .ref (b + o0))] := hl
  unfold fX1_takesRange at h
  refine lv_aload_n hx0 hb dX1_takesRange_0 rfl (lv_at hl 0 rfl) ?_
  refine gtX1_4 (k := o0) C hW ho0 flX1_29 dX1_takesRange_1 ?_
  refine lv_bipush (v := (12 : Int32)) hx0 hb dX1_takesRange_4 (by decide) ?_
  refine lv_icmp_ge (tgt := 13) hx0 hb dX1_takesRange_6 (by decide) (fun c6 => ?_) (fun c6 => ?_)
  · rw [if_pos c6] at h
    refine lv_iconst (v := (0 : Int32)) hx0 hb dX1_takesRange_13 (by decide) ?_
    cases h
    exact w_zret C hW hS (Or.inl rfl) dX1_takesRange_14
  · rw [if_neg c6] at h
    refine lv_iconst (v := (1 : Int32)) hx0 hb dX1_takesRange_9 (by decide) ?_
    refine lv_goto (tgt := 14) hx0 hb dX1_takesRange_10 (by decide) ?_
    cases h
    exact w_zret C hW hS (Or.inr rfl) dX1_takesRange_14
def fX1_add (o0 : Nat) (x1 : Int32) (x2 : Int32) (x3 : Int32) (x4 : Int32) (σ : Mem) : Option Mem :=
  (fX1_takesRange o0 σ).bind fun v1 => if v1 = 0 then (some σ) else ((fX3_put (o0 + 1) (σ o0 4) x1 σ).bind fun v16 => (fX3_put (o0 + 3) (v16 o0 4) x2 v16).bind fun v28 => (fX3_put (o0 + 5) (v28 o0 4) x3 v28).bind fun v40 => (fX3_put (o0 + 7) (v40 o0 4) x4 v40).bind fun v53 => some (up v53 o0 4 ((v53 o0 4) + (1 : Int32))))
set_option maxRecDepth 100000 in
set_option maxHeartbeats 4000000 in
theorem mX1_add {l : Launch} {E : Ev} {b : Nat} (o0 : Nat) (x1 : Int32) (x2 : Int32) (x3 : Int32) (x4 : Int32) (ho0 : kd o0 = 1) (σ : Mem) (r : Mem) (h : fX1_add o0 x1 x2 x3 x4 σ = some r) : Met l yX1_add (tw yX1_add cX1_add 5 none) { frames := 1, cells := 0, slots := 0, locals := 22 } (va_Pc [.ref (b + o0), .int x1, .int x2, .int x3, .int x4] (Pr l E (LC E b) σ)) (Qz E (LC E b) none r) 0 0 (La (LC E b)) := by
  refine ct_of (by decide) (Nat.le_of_ble_eq_true rfl) ?_
  intro p e s m below meth c C hW hS ls hl
  have hx0 := C.1
  have hb := C.2.1
  have hl : lv_has ls 5 [(0, .ref (b + o0)), (1, .int x1), (2, .int x2), (3, .int x3), (4, .int x4)] := hl
  unfold fX1_add at h
  refine lv_aload_n hx0 hb dX1_add_0 rfl (lv_at hl 0 rfl) ?_
  obtain ⟨v1, h1, h⟩ := bnd h
  try dsimp only at h
  refine w_callV (L := (LC E b)) (k := o0) (As := []) (rest := []) C hW hS (kdlt ho0 (by decide)) (ccX1 ho0) kcX1 (mX1_takesRange o0 ho0 σ v1 h1) cwX1_takesRange cvX1_takesRange rfl mlX1_37 ⟨by decide, by decide⟩ rfl hl.1 (Nat.le_of_ble_eq_true rfl) ⟨by decide, by decide⟩ dX1_add_1 rfl (fun H locs hW hS => ?_)
  refine lv_if_eq (tgt := 66) hx0 hb dX1_add_4 (by decide) (fun c4 => ?_) (fun c4 => ?_)
  · rw [if_pos c4] at h
    cases h
    exact w_vret C hW hS dX1_add_66
  · rw [if_neg c4] at h
    refine lv_aload_n hx0 hb dX1_add_7 rfl (lv_at hl 0 rfl) ?_
    refine gtX1_0 (k := o0) C hW ho0 flX1_14 dX1_add_8 ?_
    refine lv_aload_n hx0 hb dX1_add_11 rfl (lv_at hl 0 rfl) ?_
    refine gtX1_4 (k := o0) C hW ho0 flX1_29 dX1_add_12 ?_
    refine lv_iload_n hx0 hb dX1_add_15 rfl (lv_at hl 1 rfl) ?_
    obtain ⟨v16, h16, h⟩ := bnd h
    try dsimp only at h
    refine w_callV (L := (LC E b)) (k := o0 + 1) (As := [.int (σ o0 4), .int x1]) (rest := []) C hW hS (kdlt (chX1_0 ho0) (by decide)) (ccX3 (chX1_0 ho0)) kcX3 (mX3_put (o0 + 1) (σ o0 4) x1 (chX1_0 ho0) σ v16 h16) cwX3_put cvX3_put rfl mlX1_41 ⟨by decide, by decide⟩ rfl hl.1 (Nat.le_of_ble_eq_true rfl) ⟨by decide, by decide⟩ dX1_add_16 rfl (fun H locs hW hS => ?_)
    refine lv_aload_n hx0 hb dX1_add_19 rfl (lv_at hl 0 rfl) ?_
    refine gtX1_1 (k := o0) C hW ho0 flX1_20 dX1_add_20 ?_
    refine lv_aload_n hx0 hb dX1_add_23 rfl (lv_at hl 0 rfl) ?_
    refine gtX1_4 (k := o0) C hW ho0 flX1_29 dX1_add_24 ?_
    refine lv_iload_n hx0 hb dX1_add_27 rfl (lv_at hl 2 rfl) ?_
    obtain ⟨v28, h28, h⟩ := bnd h
    try dsimp only at h
    refine w_callV (L := (LC E b)) (k := o0 + 3) (As := [.int (v16 o0 4), .int x2]) (rest := []) C hW hS (kdlt (chX1_1 ho0) (by decide)) (ccX3 (chX1_1 ho0)) kcX3 (mX3_put (o0 + 3) (v16 o0 4) x2 (chX1_1 ho0) v16 v28 h28) cwX3_put cvX3_put rfl mlX1_41 ⟨by decide, by decide⟩ rfl hl.1 (Nat.le_of_ble_eq_true rfl) ⟨by decide, by decide⟩ dX1_add_28 rfl (fun H locs hW hS => ?_)
    refine lv_aload_n hx0 hb dX1_add_31 rfl (lv_at hl 0 rfl) ?_
    refine gtX1_2 (k := o0) C hW ho0 flX1_23 dX1_add_32 ?_
    refine lv_aload_n hx0 hb dX1_add_35 rfl (lv_at hl 0 rfl) ?_
    refine gtX1_4 (k := o0) C hW ho0 flX1_29 dX1_add_36 ?_
    refine lv_iload_n hx0 hb dX1_add_39 rfl (lv_at hl 3 rfl) ?_
    obtain ⟨v40, h40, h⟩ := bnd h
    try dsimp only at h
    refine w_callV (L := (LC E b)) (k := o0 + 5) (As := [.int (v28 o0 4), .int x3]) (rest := []) C hW hS (kdlt (chX1_2 ho0) (by decide)) (ccX3 (chX1_2 ho0)) kcX3 (mX3_put (o0 + 5) (v28 o0 4) x3 (chX1_2 ho0) v28 v40 h40) cwX3_put cvX3_put rfl mlX1_41 ⟨by decide, by decide⟩ rfl hl.1 (Nat.le_of_ble_eq_true rfl) ⟨by decide, by decide⟩ dX1_add_40 rfl (fun H locs hW hS => ?_)
    refine lv_aload_n hx0 hb dX1_add_43 rfl (lv_at hl 0 rfl) ?_
    refine gtX1_3 (k := o0) C hW ho0 flX1_26 dX1_add_44 ?_
    refine lv_aload_n hx0 hb dX1_add_47 rfl (lv_at hl 0 rfl) ?_
    refine gtX1_4 (k := o0) C hW ho0 flX1_29 dX1_add_48 ?_
    refine lv_iload hx0 hb dX1_add_51 (lv_at hl 4 rfl) ?_
    obtain ⟨v53, h53, h⟩ := bnd h
    try dsimp only at h
    refine w_callV (L := (LC E b)) (k := o0 + 7) (As := [.int (v40 o0 4), .int x4]) (rest := []) C hW hS (kdlt (chX1_3 ho0) (by decide)) (ccX3 (chX1_3 ho0)) kcX3 (mX3_put (o0 + 7) (v40 o0 4) x4 (chX1_3 ho0) v40 v53 h53) cwX3_put cvX3_put rfl mlX1_41 ⟨by decide, by decide⟩ rfl hl.1 (Nat.le_of_ble_eq_true rfl) ⟨by decide, by decide⟩ dX1_add_53 rfl (fun H locs hW hS => ?_)
    refine lv_aload_n hx0 hb dX1_add_56 rfl (lv_at hl 0 rfl) ?_
    refine lv_dup hx0 hb dX1_add_57 rfl ?_
    refine gtX1_4 (k := o0) C hW ho0 flX1_29 dX1_add_58 ?_
    refine lv_iconst (v := (1 : Int32)) hx0 hb dX1_add_61 (by decide) ?_
    refine lv_iadd hx0 hb dX1_add_62 ?_
    refine ptX1_4 (k := o0) C hW hS ho0 flX1_29 dX1_add_63 (fun H locs hW hS => ?_)
    cases h
    exact w_vret C hW hS dX1_add_66
def fX1_rangeOf_l7 (o0 : Nat) (x1 : Int32) : Nat → Int32 → Mem → Option (Int32 ⊕ (Int32))
  | 0, _, _ => none
  | n + 1, x2, σ => if x2 < 0 then (some (.inr x2)) else ((fX3_at (o0 + 1) x2 σ).bind fun v16 => if x1 < v16 then (fX1_rangeOf_l7 o0 x1 n (x2 + (-1 : Int32)) σ) else ((fX3_at (o0 + 3) x2 σ).bind fun v29 => if v29 < x1 then (fX1_rangeOf_l7 o0 x1 n (x2 + (-1 : Int32)) σ) else (some (.inl x2))))
set_option maxRecDepth 100000 in
set_option maxHeartbeats 4000000 in
theorem bX1_rangeOf_l7 {p : Program} {l : Launch} {e : Env} {s : State} {m : MethodId} {args : Array Value} {below : List Frame} {meth : Method} {c : Code} {E : Ev} {b : Nat} (C : Cx p l s m args meth c E cX1_rangeOf 3 RX1 (some .int)) (o0 : Nat) (x1 : Int32) (ho0 : kd o0 = 1) (σ : Mem) (r0 : Int32) {q0 : Int32 ⊕ (Int32)} (hr : ∀ r, q0 = .inl r → r = r0) (hx : ∀ q, q0 = .inr q → ∀ H locs ls, Wd E (LC E b) σ H → va_S (La (LC E b)) s.heap H locs → lv_has ls 3 [(0, .ref (b + o0)), (1, .int x1), (2, .int q)] → W p l e { frames := 1, cells := 0, slots := 0, locals := 21 } s m args below meth c H locs 0 0 (MQ below (Qz E (LC E b) (some (.int r0)) σ) args s 0 0 (La (LC E b))) (F0 m 43 ls [])) : ∀ (n : Nat) (x2 : Int32), fX1_rangeOf_l7 o0 x1 n x2 σ = some q0 → ∀ (H : Heap) (locs : List Loc) (ls : Array Slot), Wd E (LC E b) σ H → va_S (La (LC E b)) s.heap H locs → lv_has ls 3 [(0, .ref (b + o0)), (1, .int x1), (2, .int x2)] → W p l e { frames := 1, cells := 0, slots := 0, locals := 21 } s m args below meth c H locs 0 0 (MQ below (Qz E (LC E b) (some (.int r0)) σ) args s 0 0 (La (LC E b))) (F0 m 7 ls []) := by
  have hx0 := C.1
  have hb := C.2.1
  intro n
  induction n with
  | zero => intro x2 h; simp [fX1_rangeOf_l7] at h
  | succ n ih =>
    intro x2 h H locs ls hW hS hl
    unfold fX1_rangeOf_l7 at h
    refine lv_iload_n hx0 hb dX1_rangeOf_7 rfl (lv_at hl 2 rfl) ?_
    refine lv_if_lt (tgt := 43) hx0 hb dX1_rangeOf_8 (by decide) (fun c8 => ?_) (fun c8 => ?_)
    · rw [if_pos c8] at h
      cases h
      exact hx _ rfl _ _ _ hW hS (lv_sub hl [0, 1, 2] rfl)
    · rw [if_neg c8] at h
      refine lv_aload_n hx0 hb dX1_rangeOf_11 rfl (lv_at hl 0 rfl) ?_
      refine gtX1_0 (k := o0) C hW ho0 flX1_14 dX1_rangeOf_12 ?_
      refine lv_iload_n hx0 hb dX1_rangeOf_15 rfl (lv_at hl 2 rfl) ?_
      obtain ⟨v16, h16, h⟩ := bnd h
      try dsimp only at h
      refine w_callV (L := (LC E b)) (k := o0 + 1) (As := [.int x2]) (rest := []) C hW hS (kdlt (chX1_0 ho0) (by decide)) (ccX3 (chX1_0 ho0)) kcX3 (mX3_at (o0 + 1) x2 (chX1_0 ho0) σ v16 h16) cwX3_at cvX3_at rfl mlX1_45 ⟨by decide, by decide⟩ rfl hl.1 (Nat.le_of_ble_eq_true rfl) ⟨by decide, by decide⟩ dX1_rangeOf_16 rfl (fun H locs hW hS => ?_)
      refine lv_iload_n hx0 hb dX1_rangeOf_19 rfl (lv_at hl 1 rfl) ?_
      refine lv_icmp_gt (tgt := 37) hx0 hb dX1_rangeOf_20 (by decide) (fun c20 => ?_) (fun c20 => ?_)
      · rw [if_pos c20] at h
        refine lv_iinc (v := x2 + (-1 : Int32)) (lv' := [(2, .int (x2 + (-1 : Int32))), (0, .ref (b + o0)), (1, .int x1)]) hx0 hb dX1_rangeOf_37 hl (k := 2) rfl rfl (by decide) rfl (fun ls hl => ?_)
        refine lv_goto (tgt := 7) hx0 hb dX1_rangeOf_40 (by decide) ?_
        exact ih (x2 + (-1 : Int32)) h _ _ _ hW hS (lv_sub hl [1, 2, 0] rfl)
      · rw [if_neg c20] at h
        refine lv_iload_n hx0 hb dX1_rangeOf_23 rfl (lv_at hl 1 rfl) ?_
        refine lv_aload_n hx0 hb dX1_rangeOf_24 rfl (lv_at hl 0 rfl) ?_
        refine gtX1_1 (k := o0) C hW ho0 flX1_20 dX1_rangeOf_25 ?_
        refine lv_iload_n hx0 hb dX1_rangeOf_28 rfl (lv_at hl 2 rfl) ?_
        obtain ⟨v29, h29, h⟩ := bnd h
        try dsimp only at h
        refine w_callV (L := (LC E b)) (k := o0 + 3) (As := [.int x2]) (rest := [.int x1]) C hW hS (kdlt (chX1_1 ho0) (by decide)) (ccX3 (chX1_1 ho0)) kcX3 (mX3_at (o0 + 3) x2 (chX1_1 ho0) σ v29 h29) cwX3_at cvX3_at rfl mlX1_45 ⟨by decide, by decide⟩ rfl hl.1 (Nat.le_of_ble_eq_true rfl) ⟨by decide, by decide⟩ dX1_rangeOf_29 rfl (fun H locs hW hS => ?_)
        refine lv_icmp_gt (tgt := 37) hx0 hb dX1_rangeOf_32 (by decide) (fun c32 => ?_) (fun c32 => ?_)
        · rw [if_pos c32] at h
          refine lv_iinc (v := x2 + (-1 : Int32)) (lv' := [(2, .int (x2 + (-1 : Int32))), (0, .ref (b + o0)), (1, .int x1)]) hx0 hb dX1_rangeOf_37 hl (k := 2) rfl rfl (by decide) rfl (fun ls hl => ?_)
          refine lv_goto (tgt := 7) hx0 hb dX1_rangeOf_40 (by decide) ?_
          exact ih (x2 + (-1 : Int32)) h _ _ _ hW hS (lv_sub hl [1, 2, 0] rfl)
        · rw [if_neg c32] at h
          refine lv_iload_n hx0 hb dX1_rangeOf_35 rfl (lv_at hl 2 rfl) ?_
          cases h
          cases hr _ rfl
          exact w_iret C hW hS dX1_rangeOf_36
def fX1_rangeOf (o0 : Nat) (x1 : Int32) (σ : Mem) : Option Int32 :=
  (fX1_rangeOf_l7 o0 x1 FU ((σ o0 4) - (1 : Int32)) σ).bind fun q7 => match q7 with | .inl r => some r | .inr q7 => some (-1 : Int32)
set_option maxRecDepth 100000 in
set_option maxHeartbeats 4000000 in
theorem mX1_rangeOf {l : Launch} {E : Ev} {b : Nat} (o0 : Nat) (x1 : Int32) (ho0 : kd o0 = 1) (σ : Mem) (r : Int32) (h : fX1_rangeOf o0 x1 σ = some r) : Met l yX1_rangeOf (tw yX1_rangeOf cX1_rangeOf 3 (some .int)) { frames := 1, cells := 0, slots := 0, locals := 21 } (va_Pc [.ref (b + o0), .int x1] (Pr l E (LC E b) σ)) (Qz E (LC E b) (some (.int r)) σ) 0 0 (La (LC E b)) := by
  refine ct_of (by decide) (Nat.le_of_ble_eq_true rfl) ?_
  intro p e s m below meth c C hW hS ls hl
  have hx0 := C.1
  have hb := C.2.1
  have hl : lv_has ls 3 [(0, .ref (b + o0)), (1, .int x1)] := hl
  unfold fX1_rangeOf at h
  refine lv_aload_n hx0 hb dX1_rangeOf_0 rfl (lv_at hl 0 rfl) ?_
  refine gtX1_4 (k := o0) C hW ho0 flX1_29 dX1_rangeOf_1 ?_
  refine lv_iconst (v := (1 : Int32)) hx0 hb dX1_rangeOf_4 (by decide) ?_
  refine lv_isub hx0 hb dX1_rangeOf_5 ?_
  refine lv_istore_n (lv' := [(2, .int ((σ o0 4) - (1 : Int32))), (0, .ref (b + o0)), (1, .int x1)]) hx0 hb dX1_rangeOf_6 rfl hl (by decide) rfl (fun ls hl => ?_)
  obtain ⟨q7, h7, h⟩ := bnd h
  refine bX1_rangeOf_l7 C o0 x1 ho0 σ r (q0 := q7) ?_ ?_ FU ((σ o0 4) - (1 : Int32)) h7 _ _ _ hW hS (lv_sub hl [1, 2, 0] rfl)
  · intro r1 hq; subst hq; (try dsimp only at h); exact Option.some.inj h
  · intro q7 hq H locs ls hW hS hl
    subst hq; try dsimp only at h
    refine lv_iconst (v := (-1 : Int32)) hx0 hb dX1_rangeOf_43 (by decide) ?_
    cases h
    exact w_iret C hW hS dX1_rangeOf_44
def fX1_write (o0 : Nat) (x1 : Int32) (x2 : Int32) (o3 : Nat) (σ : Mem) : Option Mem :=
  (fX1_rangeOf o0 x1 σ).bind fun v2 => if v2 = (-1 : Int32) then (some σ) else ((fX3_at (o0 + 1) v2 σ).bind fun v21 => (fX3_at (o0 + 7) v2 σ).bind fun v33 => (fX3_at (o0 + 5) v2 σ).bind fun v55 => if v55 = 0 then ((fX8_addDecimal o3 (v33 + (x1 - v21)) σ).bind fun v71 => if x2 = 0 then ((fX8_add o3 (114 : Int32) v71).bind fun v86 => some v86) else ((fX8_add o3 (118 : Int32) v71).bind fun v86 => some v86)) else (if v55 = (1 : Int32) then ((fX8_addDecimal o3 ((v33 + ((2 : Int32) * (x1 - v21))) + x2) σ).bind fun v101 => some v101) else (if v55 = (2 : Int32) then ((fX8_addRoman o3 ((v33 + ((2 : Int32) * (x1 - v21))) + x2) σ).bind fun v116 => some v116) else (some σ))))
set_option maxRecDepth 100000 in
set_option maxHeartbeats 4000000 in
theorem mX1_write {l : Launch} {E : Ev} {b : Nat} (o0 : Nat) (x1 : Int32) (x2 : Int32) (o3 : Nat) (ho0 : kd o0 = 1) (ho3 : kd o3 = 8) (σ : Mem) (r : Mem) (h : fX1_write o0 x1 x2 o3 σ = some r) : Met l yX1_write (tw yX1_write cX1_write 9 none) { frames := 3, cells := 0, slots := 0, locals := 68 } (va_Pc [.ref (b + o0), .int x1, .int x2, .ref (b + o3)] (Pr l E (LC E b) σ)) (Qz E (LC E b) none r) 0 0 (La (LC E b)) := by
  refine ct_of (by decide) (Nat.le_of_ble_eq_true rfl) ?_
  intro p e s m below meth c C hW hS ls hl
  have hx0 := C.1
  have hb := C.2.1
  have hl : lv_has ls 9 [(0, .ref (b + o0)), (1, .int x1), (2, .int x2), (3, .ref (b + o3))] := hl
  unfold fX1_write at h
  refine lv_aload_n hx0 hb dX1_write_0 rfl (lv_at hl 0 rfl) ?_
  refine lv_iload_n hx0 hb dX1_write_1 rfl (lv_at hl 1 rfl) ?_
  obtain ⟨v2, h2, h⟩ := bnd h
  try dsimp only at h
  refine w_callV (L := (LC E b)) (k := o0) (As := [.int x1]) (rest := []) C hW hS (kdlt ho0 (by decide)) (ccX1 ho0) kcX1 (mX1_rangeOf o0 x1 ho0 σ v2 h2) cwX1_rangeOf cvX1_rangeOf rfl mlX1_49 ⟨by decide, by decide⟩ rfl hl.1 (Nat.le_of_ble_eq_true rfl) ⟨by decide, by decide⟩ dX1_write_2 rfl (fun H locs hW hS => ?_)
  refine lv_istore (lv' := [(4, .int v2), (0, .ref (b + o0)), (1, .int x1), (2, .int x2), (3, .ref (b + o3))]) hx0 hb dX1_write_5 hl (by decide) rfl (fun ls hl => ?_)
  refine lv_iload hx0 hb dX1_write_7 (lv_at hl 0 rfl) ?_
  refine lv_iconst (v := (-1 : Int32)) hx0 hb dX1_write_9 (by decide) ?_
  refine lv_icmp_ne (tgt := 14) hx0 hb dX1_write_10 (by decide) (fun c10 => ?_) (fun c10 => ?_)
  · rw [if_neg c10] at h
    refine lv_iload_n hx0 hb dX1_write_14 rfl (lv_at hl 2 rfl) ?_
    refine lv_aload_n hx0 hb dX1_write_15 rfl (lv_at hl 1 rfl) ?_
    refine gtX1_0 (k := o0) C hW ho0 flX1_14 dX1_write_16 ?_
    refine lv_iload hx0 hb dX1_write_19 (lv_at hl 0 rfl) ?_
    obtain ⟨v21, h21, h⟩ := bnd h
    try dsimp only at h
    refine w_callV (L := (LC E b)) (k := o0 + 1) (As := [.int v2]) (rest := [.int x1]) C hW hS (kdlt (chX1_0 ho0) (by decide)) (ccX3 (chX1_0 ho0)) kcX3 (mX3_at (o0 + 1) v2 (chX1_0 ho0) σ v21 h21) cwX3_at cvX3_at rfl mlX1_45 ⟨by decide, by decide⟩ rfl hl.1 (Nat.le_of_ble_eq_true rfl) ⟨by decide, by decide⟩ dX1_write_21 rfl (fun H locs hW hS => ?_)
    refine lv_isub hx0 hb dX1_write_24 ?_
    refine lv_istore (lv' := [(5, .int (x1 - v21)), (4, .int v2), (0, .ref (b + o0)), (1, .int x1), (2, .int x2), (3, .ref (b + o3))]) hx0 hb dX1_write_25 hl (by decide) rfl (fun ls hl => ?_)
    refine lv_aload_n hx0 hb dX1_write_27 rfl (lv_at hl 2 rfl) ?_
    refine gtX1_3 (k := o0) C hW ho0 flX1_26 dX1_write_28 ?_
    refine lv_iload hx0 hb dX1_write_31 (lv_at hl 1 rfl) ?_
    obtain ⟨v33, h33, h⟩ := bnd h
    try dsimp only at h
    refine w_callV (L := (LC E b)) (k := o0 + 7) (As := [.int v2]) (rest := []) C hW hS (kdlt (chX1_3 ho0) (by decide)) (ccX3 (chX1_3 ho0)) kcX3 (mX3_at (o0 + 7) v2 (chX1_3 ho0) σ v33 h33) cwX3_at cvX3_at rfl mlX1_45 ⟨by decide, by decide⟩ rfl hl.1 (Nat.le_of_ble_eq_true rfl) ⟨by decide, by decide⟩ dX1_write_33 rfl (fun H locs hW hS => ?_)
    refine lv_istore (lv' := [(6, .int v33), (5, .int (x1 - v21)), (4, .int v2), (0, .ref (b + o0)), (1, .int x1), (2, .int x2), (3, .ref (b + o3))]) hx0 hb dX1_write_36 hl (by decide) rfl (fun ls hl => ?_)
    refine lv_iload hx0 hb dX1_write_38 (lv_at hl 0 rfl) ?_
    refine lv_iconst (v := (2 : Int32)) hx0 hb dX1_write_40 (by decide) ?_
    refine lv_iload hx0 hb dX1_write_41 (lv_at hl 1 rfl) ?_
    refine lv_imul hx0 hb dX1_write_43 ?_
    refine lv_iadd hx0 hb dX1_write_44 ?_
    refine lv_iload_n hx0 hb dX1_write_45 rfl (lv_at hl 5 rfl) ?_
    refine lv_iadd hx0 hb dX1_write_46 ?_
    refine lv_istore (lv' := [(7, .int ((v33 + ((2 : Int32) * (x1 - v21))) + x2)), (6, .int v33), (5, .int (x1 - v21)), (4, .int v2), (0, .ref (b + o0)), (1, .int x1), (2, .int x2), (3, .ref (b + o3))]) hx0 hb dX1_write_47 hl (by decide) rfl (fun ls hl => ?_)
    refine lv_aload_n hx0 hb dX1_write_49 rfl (lv_at hl 4 rfl) ?_
    refine gtX1_2 (k := o0) C hW ho0 flX1_23 dX1_write_50 ?_
    refine lv_iload hx0 hb dX1_write_53 (lv_at hl 3 rfl) ?_
    obtain ⟨v55, h55, h⟩ := bnd h
    try dsimp only at h
    refine w_callV (L := (LC E b)) (k := o0 + 5) (As := [.int v2]) (rest := []) C hW hS (kdlt (chX1_2 ho0) (by decide)) (ccX3 (chX1_2 ho0)) kcX3 (mX3_at (o0 + 5) v2 (chX1_2 ho0) σ v55 h55) cwX3_at cvX3_at rfl mlX1_45 ⟨by decide, by decide⟩ rfl hl.1 (Nat.le_of_ble_eq_true rfl) ⟨by decide, by decide⟩ dX1_write_55 rfl (fun H locs hW hS => ?_)
    refine lv_istore (lv' := [(8, .int v55), (7, .int ((v33 + ((2 : Int32) * (x1 - v21))) + x2)), (6, .int v33), (5, .int (x1 - v21)), (4, .int v2), (0, .ref (b + o0)), (1, .int x1), (2, .int x2), (3, .ref (b + o3))]) hx0 hb dX1_write_58 hl (by decide) rfl (fun ls hl => ?_)
    refine lv_iload hx0 hb dX1_write_60 (lv_at hl 0 rfl) ?_
    refine lv_if_ne (tgt := 92) hx0 hb dX1_write_62 (by decide) (fun c62 => ?_) (fun c62 => ?_)
    · rw [if_neg c62] at h
      refine lv_iload hx0 hb dX1_write_92 (lv_at hl 0 rfl) ?_
      refine lv_iconst (v := (1 : Int32)) hx0 hb dX1_write_94 (by decide) ?_
      refine lv_icmp_ne (tgt := 107) hx0 hb dX1_write_95 (by decide) (fun c95 => ?_) (fun c95 => ?_)
      · rw [if_neg c95] at h
        refine lv_iload hx0 hb dX1_write_107 (lv_at hl 0 rfl) ?_
        refine lv_iconst (v := (2 : Int32)) hx0 hb dX1_write_109 (by decide) ?_
        refine lv_icmp_ne (tgt := 119) hx0 hb dX1_write_110 (by decide) (fun c110 => ?_) (fun c110 => ?_)
        · rw [if_neg c110] at h
          cases h
          exact w_vret C hW hS dX1_write_119
        · rw [if_pos c110] at h
          refine lv_aload_n hx0 hb dX1_write_113 rfl (lv_at hl 8 rfl) ?_
          refine lv_iload hx0 hb dX1_write_114 (lv_at hl 1 rfl) ?_
          obtain ⟨v116, h116, h⟩ := bnd h
          try dsimp only at h
          refine w_callV (L := (LC E b)) (k := o3) (As := [.int ((v33 + ((2 : Int32) * (x1 - v21))) + x2)]) (rest := []) C hW hS (kdlt ho3 (by decide)) (ccX8 ho3) kcX8 (mX8_addRoman o3 ((v33 + ((2 : Int32) * (x1 - v21))) + x2) ho3 σ v116 h116) cwX8_addRoman cvX8_addRoman rfl mlX1_60 ⟨by decide, by decide⟩ rfl hl.1 (Nat.le_of_ble_eq_true rfl) ⟨by decide, by decide⟩ dX1_write_116 rfl (fun H locs hW hS => ?_)
          cases h
          exact w_vret C hW hS dX1_write_119
      · rw [if_pos c95] at h
        refine lv_aload_n hx0 hb dX1_write_98 rfl (lv_at hl 8 rfl) ?_
        refine lv_iload hx0 hb dX1_write_99 (lv_at hl 1 rfl) ?_
        obtain ⟨v101, h101, h⟩ := bnd h
        try dsimp only at h
        refine w_callV (L := (LC E b)) (k := o3) (As := [.int ((v33 + ((2 : Int32) * (x1 - v21))) + x2)]) (rest := []) C hW hS (kdlt ho3 (by decide)) (ccX8 ho3) kcX8 (mX8_addDecimal o3 ((v33 + ((2 : Int32) * (x1 - v21))) + x2) ho3 σ v101 h101) cwX8_addDecimal cvX8_addDecimal rfl mlX1_52 ⟨by decide, by decide⟩ rfl hl.1 (Nat.le_of_ble_eq_true rfl) ⟨by decide, by decide⟩ dX1_write_101 rfl (fun H locs hW hS => ?_)
        refine lv_goto (tgt := 119) hx0 hb dX1_write_104 (by decide) ?_
        cases h
        exact w_vret C hW hS dX1_write_119
    · rw [if_pos c62] at h
      refine lv_aload_n hx0 hb dX1_write_65 rfl (lv_at hl 8 rfl) ?_
      refine lv_iload hx0 hb dX1_write_66 (lv_at hl 2 rfl) ?_
      refine lv_iload hx0 hb dX1_write_68 (lv_at hl 3 rfl) ?_
      refine lv_iadd hx0 hb dX1_write_70 ?_
      obtain ⟨v71, h71, h⟩ := bnd h
      try dsimp only at h
      refine w_callV (L := (LC E b)) (k := o3) (As := [.int (v33 + (x1 - v21))]) (rest := []) C hW hS (kdlt ho3 (by decide)) (ccX8 ho3) kcX8 (mX8_addDecimal o3 (v33 + (x1 - v21)) ho3 σ v71 h71) cwX8_addDecimal cvX8_addDecimal rfl mlX1_52 ⟨by decide, by decide⟩ rfl hl.1 (Nat.le_of_ble_eq_true rfl) ⟨by decide, by decide⟩ dX1_write_71 rfl (fun H locs hW hS => ?_)
      refine lv_aload_n hx0 hb dX1_write_74 rfl (lv_at hl 8 rfl) ?_
      refine lv_iload_n hx0 hb dX1_write_75 rfl (lv_at hl 7 rfl) ?_
      refine lv_if_ne (tgt := 84) hx0 hb dX1_write_76 (by decide) (fun c76 => ?_) (fun c76 => ?_)
      · rw [if_neg c76] at h
        refine lv_bipush (v := (118 : Int32)) hx0 hb dX1_write_84 (by decide) ?_
        obtain ⟨v86, h86, h⟩ := bnd h
        try dsimp only at h
        refine w_callV (L := (LC E b)) (k := o3) (As := [.int (118 : Int32)]) (rest := []) C hW hS (kdlt ho3 (by decide)) (ccX8 ho3) kcX8 (mX8_add o3 (118 : Int32) ho3 v71 v86 h86) cwX8_add cvX8_add rfl mlX1_57 ⟨by decide, by decide⟩ rfl hl.1 (Nat.le_of_ble_eq_true rfl) ⟨by decide, by decide⟩ dX1_write_86 rfl (fun H locs hW hS => ?_)
        refine lv_goto (tgt := 119) hx0 hb dX1_write_89 (by decide) ?_
        cases h
        exact w_vret C hW hS dX1_write_119
      · rw [if_pos c76] at h
        refine lv_bipush (v := (114 : Int32)) hx0 hb dX1_write_79 (by decide) ?_
        refine lv_goto (tgt := 86) hx0 hb dX1_write_81 (by decide) ?_
        obtain ⟨v86, h86, h⟩ := bnd h
        try dsimp only at h
        refine w_callV (L := (LC E b)) (k := o3) (As := [.int (114 : Int32)]) (rest := []) C hW hS (kdlt ho3 (by decide)) (ccX8 ho3) kcX8 (mX8_add o3 (114 : Int32) ho3 v71 v86 h86) cwX8_add cvX8_add rfl mlX1_57 ⟨by decide, by decide⟩ rfl hl.1 (Nat.le_of_ble_eq_true rfl) ⟨by decide, by decide⟩ dX1_write_86 rfl (fun H locs hW hS => ?_)
        refine lv_goto (tgt := 119) hx0 hb dX1_write_89 (by decide) ?_
        cases h
        exact w_vret C hW hS dX1_write_119
  · rw [if_pos c10] at h
    cases h
    exact w_vret C hW hS dX1_write_13
