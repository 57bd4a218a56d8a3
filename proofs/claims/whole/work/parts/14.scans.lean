/-! PageArchive$Scans, by program out of the bytecode -/
def fX5_clear (o0 : Nat) (σ : Mem) : Option Mem :=
  some (up σ o0 3 (0 : Int32))
set_option maxRecDepth 100000 in
set_option maxHeartbeats 4000000 in
theorem mX5_clear {l : Launch} {E : Ev} {b : Nat} (o0 : Nat) (ho0 : kd o0 = 5) (σ : Mem) (r : Mem) (h : fX5_clear o0 σ = some r) : Met l yX5_clear (tw yX5_clear cX5_clear 1 none) { frames := 0, cells := 0, slots := 0, locals := 0 } (va_Pc [.ref (b + o0)] (Pr l E (LC E b) σ)) (Qz E (LC E b) none r) 0 0 (La (LC E b)) := by
  refine ct_of (by decide) (Nat.le_of_ble_eq_true rfl) ?_
  intro p e s m below meth c C hW hS ls hl
  have hx0 := C.1
  have hb := C.2.1
  have hl : lv_has ls 1 [(0, .ref (b + o0))] := hl
  unfold fX5_clear at h
  refine lv_aload_n hx0 hb dX5_clear_0 rfl (lv_at hl 0 rfl) ?_
  refine lv_iconst (v := (0 : Int32)) hx0 hb dX5_clear_1 (by decide) ?_
  refine ptX5_3 (k := o0) C hW hS ho0 flX5_26 dX5_clear_2 (fun H locs hW hS => ?_)
  cases h
  exact w_vret C hW hS dX5_clear_5
def fX5_copyFrom (o0 : Nat) (o1 : Nat) (σ : Mem) : Option Mem :=
  (fX3_copyFrom (o0 + 1) (o1 + 1) σ).bind fun v8 => (fX3_copyFrom (o0 + 3) (o1 + 3) v8).bind fun v19 => (fX3_copyFrom (o0 + 5) (o1 + 5) v19).bind fun v30 => some (up v30 o0 3 (v30 o1 3))
set_option maxRecDepth 100000 in
set_option maxHeartbeats 4000000 in
theorem mX5_copyFrom {l : Launch} {E : Ev} {b : Nat} (o0 : Nat) (o1 : Nat) (ho0 : kd o0 = 5) (ho1 : kd o1 = 5) (σ : Mem) (r : Mem) (h : fX5_copyFrom o0 o1 σ = some r) : Met l yX5_copyFrom (tw yX5_copyFrom cX5_copyFrom 2 none) { frames := 2, cells := 0, slots := 0, locals := 62 } (va_Pc [.ref (b + o0), .ref (b + o1)] (Pr l E (LC E b) σ)) (Qz E (LC E b) none r) 0 0 (La (LC E b)) := by
  refine ct_of (by decide) (Nat.le_of_ble_eq_true rfl) ?_
  intro p e s m below meth c C hW hS ls hl
  have hx0 := C.1
  have hb := C.2.1
  have hl : lv_has ls 2 [(0, .ref (b + o0)), (1, .ref (b + o1))] := hl
  unfold fX5_copyFrom at h
  refine lv_aload_n hx0 hb dX5_copyFrom_0 rfl (lv_at hl 0 rfl) ?_
  refine gtX5_0 (k := o0) C hW ho0 flX5_14 dX5_copyFrom_1 ?_
  refine lv_aload_n hx0 hb dX5_copyFrom_4 rfl (lv_at hl 1 rfl) ?_
  refine gtX5_0 (k := o1) C hW ho1 flX5_14 dX5_copyFrom_5 ?_
  obtain ⟨v8, h8, h⟩ := bnd h
  try dsimp only at h
  refine w_callV (L := (LC E b)) (k := o0 + 1) (As := [.ref (b + (o1 + 1))]) (rest := []) C hW hS (kdlt (chX5_0 ho0) (by decide)) (ccX3 (chX5_0 ho0)) kcX3 (mX3_copyFrom (o0 + 1) (o1 + 1) (chX5_0 ho0) (chX5_0 ho1) σ v8 h8) cwX3_copyFrom cvX3_copyFrom rfl mlX5_30 ⟨by decide, by decide⟩ rfl hl.1 (Nat.le_of_ble_eq_true rfl) ⟨by decide, by decide⟩ dX5_copyFrom_8 rfl (fun H locs hW hS => ?_)
  refine lv_aload_n hx0 hb dX5_copyFrom_11 rfl (lv_at hl 0 rfl) ?_
  refine gtX5_1 (k := o0) C hW ho0 flX5_20 dX5_copyFrom_12 ?_
  refine lv_aload_n hx0 hb dX5_copyFrom_15 rfl (lv_at hl 1 rfl) ?_
  refine gtX5_1 (k := o1) C hW ho1 flX5_20 dX5_copyFrom_16 ?_
  obtain ⟨v19, h19, h⟩ := bnd h
  try dsimp only at h
  refine w_callV (L := (LC E b)) (k := o0 + 3) (As := [.ref (b + (o1 + 3))]) (rest := []) C hW hS (kdlt (chX5_1 ho0) (by decide)) (ccX3 (chX5_1 ho0)) kcX3 (mX3_copyFrom (o0 + 3) (o1 + 3) (chX5_1 ho0) (chX5_1 ho1) v8 v19 h19) cwX3_copyFrom cvX3_copyFrom rfl mlX5_30 ⟨by decide, by decide⟩ rfl hl.1 (Nat.le_of_ble_eq_true rfl) ⟨by decide, by decide⟩ dX5_copyFrom_19 rfl (fun H locs hW hS => ?_)
  refine lv_aload_n hx0 hb dX5_copyFrom_22 rfl (lv_at hl 0 rfl) ?_
  refine gtX5_2 (k := o0) C hW ho0 flX5_23 dX5_copyFrom_23 ?_
  refine lv_aload_n hx0 hb dX5_copyFrom_26 rfl (lv_at hl 1 rfl) ?_
  refine gtX5_2 (k := o1) C hW ho1 flX5_23 dX5_copyFrom_27 ?_
  obtain ⟨v30, h30, h⟩ := bnd h
  try dsimp only at h
  refine w_callV (L := (LC E b)) (k := o0 + 5) (As := [.ref (b + (o1 + 5))]) (rest := []) C hW hS (kdlt (chX5_2 ho0) (by decide)) (ccX3 (chX5_2 ho0)) kcX3 (mX3_copyFrom (o0 + 5) (o1 + 5) (chX5_2 ho0) (chX5_2 ho1) v19 v30 h30) cwX3_copyFrom cvX3_copyFrom rfl mlX5_30 ⟨by decide, by decide⟩ rfl hl.1 (Nat.le_of_ble_eq_true rfl) ⟨by decide, by decide⟩ dX5_copyFrom_30 rfl (fun H locs hW hS => ?_)
  refine lv_aload_n hx0 hb dX5_copyFrom_33 rfl (lv_at hl 0 rfl) ?_
  refine lv_aload_n hx0 hb dX5_copyFrom_34 rfl (lv_at hl 1 rfl) ?_
  refine gtX5_3 (k := o1) C hW ho1 flX5_26 dX5_copyFrom_35 ?_
  refine ptX5_3 (k := o0) C hW hS ho0 flX5_26 dX5_copyFrom_38 (fun H locs hW hS => ?_)
  cases h
  exact w_vret C hW hS dX5_copyFrom_41
def fX5_size (o0 : Nat) (σ : Mem) : Option Int32 :=
  some (σ o0 3)
set_option maxRecDepth 100000 in
set_option maxHeartbeats 4000000 in
theorem mX5_size {l : Launch} {E : Ev} {b : Nat} (o0 : Nat) (ho0 : kd o0 = 5) (σ : Mem) (r : Int32) (h : fX5_size o0 σ = some r) : Met l yX5_size (tw yX5_size cX5_size 1 (some .int)) { frames := 0, cells := 0, slots := 0, locals := 0 } (va_Pc [.ref (b + o0)] (Pr l E (LC E b) σ)) (Qz E (LC E b) (some (.int r)) σ) 0 0 (La (LC E b)) := by
  refine ct_of (by decide) (Nat.le_of_ble_eq_true rfl) ?_
  intro p e s m below meth c C hW hS ls hl
  have hx0 := C.1
  have hb := C.2.1
  have hl : lv_has ls 1 [(0, .ref (b + o0))] := hl
  unfold fX5_size at h
  refine lv_aload_n hx0 hb dX5_size_0 rfl (lv_at hl 0 rfl) ?_
  refine gtX5_3 (k := o0) C hW ho0 flX5_26 dX5_size_1 ?_
  cases h
  exact w_iret C hW hS dX5_size_4
def fX5_takesScan (o0 : Nat) (σ : Mem) : Option Int32 :=
  if (60 : Int32) ≤ (σ o0 3) then (some (0 : Int32)) else (some (1 : Int32))
set_option maxRecDepth 100000 in
set_option maxHeartbeats 4000000 in
theorem mX5_takesScan {l : Launch} {E : Ev} {b : Nat} (o0 : Nat) (ho0 : kd o0 = 5) (σ : Mem) (r : Int32) (h : fX5_takesScan o0 σ = some r) : Met l yX5_takesScan (tw yX5_takesScan cX5_takesScan 1 (some .boolean)) { frames := 0, cells := 0, slots := 0, locals := 0 } (va_Pc [.ref (b + o0)] (Pr l E (LC E b) σ)) (Qz E (LC E b) (some (.int r)) σ) 0 0 (La (LC E b)) := by
  refine ct_of (by decide) (Nat.le_of_ble_eq_true rfl) ?_
  intro p e s m below meth c C hW hS ls hl
  have hx0 := C.1
  have hb := C.2.1
  have hl : lv_has ls 1 [(0, .ref (b + o0))] := hl
  unfold fX5_takesScan at h
  refine lv_aload_n hx0 hb dX5_takesScan_0 rfl (lv_at hl 0 rfl) ?_
  refine gtX5_3 (k := o0) C hW ho0 flX5_26 dX5_takesScan_1 ?_
  refine lv_bipush (v := (60 : Int32)) hx0 hb dX5_takesScan_4 (by decide) ?_
  refine lv_icmp_ge (tgt := 13) hx0 hb dX5_takesScan_6 (by decide) (fun c6 => ?_) (fun c6 => ?_)
  · rw [if_pos c6] at h
    refine lv_iconst (v := (0 : Int32)) hx0 hb dX5_takesScan_13 (by decide) ?_
    cases h
    exact w_zret C hW hS (Or.inl rfl) dX5_takesScan_14
  · rw [if_neg c6] at h
    refine lv_iconst (v := (1 : Int32)) hx0 hb dX5_takesScan_9 (by decide) ?_
    refine lv_goto (tgt := 14) hx0 hb dX5_takesScan_10 (by decide) ?_
    cases h
    exact w_zret C hW hS (Or.inr rfl) dX5_takesScan_14
def fX5_kindOf (o0 : Nat) (x1 : Int32) (σ : Mem) : Option Int32 :=
  (fX3_at (o0 + 1) x1 σ).bind fun v5 => some v5
set_option maxRecDepth 100000 in
set_option maxHeartbeats 4000000 in
theorem mX5_kindOf {l : Launch} {E : Ev} {b : Nat} (o0 : Nat) (x1 : Int32) (ho0 : kd o0 = 5) (σ : Mem) (r : Int32) (h : fX5_kindOf o0 x1 σ = some r) : Met l yX5_kindOf (tw yX5_kindOf cX5_kindOf 2 (some .int)) { frames := 1, cells := 0, slots := 0, locals := 21 } (va_Pc [.ref (b + o0), .int x1] (Pr l E (LC E b) σ)) (Qz E (LC E b) (some (.int r)) σ) 0 0 (La (LC E b)) := by
  refine ct_of (by decide) (Nat.le_of_ble_eq_true rfl) ?_
  intro p e s m below meth c C hW hS ls hl
  have hx0 := C.1
  have hb := C.2.1
  have hl : lv_has ls 2 [(0, .ref (b + o0)), (1, .int x1)] := hl
  unfold fX5_kindOf at h
  refine lv_aload_n hx0 hb dX5_kindOf_0 rfl (lv_at hl 0 rfl) ?_
  refine gtX5_0 (k := o0) C hW ho0 flX5_14 dX5_kindOf_1 ?_
  refine lv_iload_n hx0 hb dX5_kindOf_4 rfl (lv_at hl 1 rfl) ?_
  obtain ⟨v5, h5, h⟩ := bnd h
  try dsimp only at h
  refine w_callV (L := (LC E b)) (k := o0 + 1) (As := [.int x1]) (rest := []) C hW hS (kdlt (chX5_0 ho0) (by decide)) (ccX3 (chX5_0 ho0)) kcX3 (mX3_at (o0 + 1) x1 (chX5_0 ho0) σ v5 h5) cwX3_at cvX3_at rfl mlX5_34 ⟨by decide, by decide⟩ rfl hl.1 (Nat.le_of_ble_eq_true rfl) ⟨by decide, by decide⟩ dX5_kindOf_5 rfl (fun H locs hW hS => ?_)
  cases h
  exact w_iret C hW hS dX5_kindOf_8
def fX5_firstOf (o0 : Nat) (x1 : Int32) (σ : Mem) : Option Int32 :=
  (fX3_at (o0 + 3) x1 σ).bind fun v5 => some v5
set_option maxRecDepth 100000 in
set_option maxHeartbeats 4000000 in
theorem mX5_firstOf {l : Launch} {E : Ev} {b : Nat} (o0 : Nat) (x1 : Int32) (ho0 : kd o0 = 5) (σ : Mem) (r : Int32) (h : fX5_firstOf o0 x1 σ = some r) : Met l yX5_firstOf (tw yX5_firstOf cX5_firstOf 2 (some .int)) { frames := 1, cells := 0, slots := 0, locals := 21 } (va_Pc [.ref (b + o0), .int x1] (Pr l E (LC E b) σ)) (Qz E (LC E b) (some (.int r)) σ) 0 0 (La (LC E b)) := by
  refine ct_of (by decide) (Nat.le_of_ble_eq_true rfl) ?_
  intro p e s m below meth c C hW hS ls hl
  have hx0 := C.1
  have hb := C.2.1
  have hl : lv_has ls 2 [(0, .ref (b + o0)), (1, .int x1)] := hl
  unfold fX5_firstOf at h
  refine lv_aload_n hx0 hb dX5_firstOf_0 rfl (lv_at hl 0 rfl) ?_
  refine gtX5_1 (k := o0) C hW ho0 flX5_20 dX5_firstOf_1 ?_
  refine lv_iload_n hx0 hb dX5_firstOf_4 rfl (lv_at hl 1 rfl) ?_
  obtain ⟨v5, h5, h⟩ := bnd h
  try dsimp only at h
  refine w_callV (L := (LC E b)) (k := o0 + 3) (As := [.int x1]) (rest := []) C hW hS (kdlt (chX5_1 ho0) (by decide)) (ccX3 (chX5_1 ho0)) kcX3 (mX3_at (o0 + 3) x1 (chX5_1 ho0) σ v5 h5) cwX3_at cvX3_at rfl mlX5_34 ⟨by decide, by decide⟩ rfl hl.1 (Nat.le_of_ble_eq_true rfl) ⟨by decide, by decide⟩ dX5_firstOf_5 rfl (fun H locs hW hS => ?_)
  cases h
  exact w_iret C hW hS dX5_firstOf_8
def fX5_secondOf (o0 : Nat) (x1 : Int32) (σ : Mem) : Option Int32 :=
  (fX3_at (o0 + 5) x1 σ).bind fun v5 => some v5
set_option maxRecDepth 100000 in
set_option maxHeartbeats 4000000 in
theorem mX5_secondOf {l : Launch} {E : Ev} {b : Nat} (o0 : Nat) (x1 : Int32) (ho0 : kd o0 = 5) (σ : Mem) (r : Int32) (h : fX5_secondOf o0 x1 σ = some r) : Met l yX5_secondOf (tw yX5_secondOf cX5_secondOf 2 (some .int)) { frames := 1, cells := 0, slots := 0, locals := 21 } (va_Pc [.ref (b + o0), .int x1] (Pr l E (LC E b) σ)) (Qz E (LC E b) (some (.int r)) σ) 0 0 (La (LC E b)) := by
  refine ct_of (by decide) (Nat.le_of_ble_eq_true rfl) ?_
  intro p e s m below meth c C hW hS ls hl
  have hx0 := C.1
  have hb := C.2.1
  have hl : lv_has ls 2 [(0, .ref (b + o0)), (1, .int x1)] := hl
  unfold fX5_secondOf at h
  refine lv_aload_n hx0 hb dX5_secondOf_0 rfl (lv_at hl 0 rfl) ?_
  refine gtX5_2 (k := o0) C hW ho0 flX5_23 dX5_secondOf_1 ?_
  refine lv_iload_n hx0 hb dX5_secondOf_4 rfl (lv_at hl 1 rfl) ?_
  obtain ⟨v5, h5, h⟩ := bnd h
  try dsimp only at h
  refine w_callV (L := (LC E b)) (k := o0 + 5) (As := [.int x1]) (rest := []) C hW hS (kdlt (chX5_2 ho0) (by decide)) (ccX3 (chX5_2 ho0)) kcX3 (mX3_at (o0 + 5) x1 (chX5_2 ho0) σ v5 h5) cwX3_at cvX3_at rfl mlX5_34 ⟨by decide, by decide⟩ rfl hl.1 (Nat.le_of_ble_eq_true rfl) ⟨by decide, by decide⟩ dX5_secondOf_5 rfl (fun H locs hW hS => ?_)
  cases h
  exact w_iret C hW hS dX5_secondOf_8
def fX5_put (o0 : Nat) (x1 : Int32) (x2 : Int32) (x3 : Int32) (x4 : Int32) (σ : Mem) : Option Mem :=
  (fX3_put (o0 + 1) x1 x2 σ).bind fun v6 => (fX3_put (o0 + 3) x1 x3 v6).bind fun v15 => (fX3_put (o0 + 5) x1 x4 v15).bind fun v25 => some v25
set_option maxRecDepth 100000 in
set_option maxHeartbeats 4000000 in
theorem mX5_put {l : Launch} {E : Ev} {b : Nat} (o0 : Nat) (x1 : Int32) (x2 : Int32) (x3 : Int32) (x4 : Int32) (ho0 : kd o0 = 5) (σ : Mem) (r : Mem) (h : fX5_put o0 x1 x2 x3 x4 σ = some r) : Met l yX5_put (tw yX5_put cX5_put 5 none) { frames := 1, cells := 0, slots := 0, locals := 22 } (va_Pc [.ref (b + o0), .int x1, .int x2, .int x3, .int x4] (Pr l E (LC E b) σ)) (Qz E (LC E b) none r) 0 0 (La (LC E b)) := by
  refine ct_of (by decide) (Nat.le_of_ble_eq_true rfl) ?_
  intro p e s m below meth c C hW hS ls hl
  have hx0 := C.1
  have hb := C.2.1
  have hl : lv_has ls 5 [(0, .ref (b + o0)), (1, .int x1), (2, .int x2), (3, .int x3), (4, .int x4)] := hl
  unfold fX5_put at h
  refine lv_aload_n hx0 hb dX5_put_0 rfl (lv_at hl 0 rfl) ?_
  refine gtX5_0 (k := o0) C hW ho0 flX5_14 dX5_put_1 ?_
  refine lv_iload_n hx0 hb dX5_put_4 rfl (lv_at hl 1 rfl) ?_
  refine lv_iload_n hx0 hb dX5_put_5 rfl (lv_at hl 2 rfl) ?_
  obtain ⟨v6, h6, h⟩ := bnd h
  try dsimp only at h
  refine w_callV (L := (LC E b)) (k := o0 + 1) (As := [.int x1, .int x2]) (rest := []) C hW hS (kdlt (chX5_0 ho0) (by decide)) (ccX3 (chX5_0 ho0)) kcX3 (mX3_put (o0 + 1) x1 x2 (chX5_0 ho0) σ v6 h6) cwX3_put cvX3_put rfl mlX5_38 ⟨by decide, by decide⟩ rfl hl.1 (Nat.le_of_ble_eq_true rfl) ⟨by decide, by decide⟩ dX5_put_6 rfl (fun H locs hW hS => ?_)
  refine lv_aload_n hx0 hb dX5_put_9 rfl (lv_at hl 0 rfl) ?_
  refine gtX5_1 (k := o0) C hW ho0 flX5_20 dX5_put_10 ?_
  refine lv_iload_n hx0 hb dX5_put_13 rfl (lv_at hl 1 rfl) ?_
  refine lv_iload_n hx0 hb dX5_put_14 rfl (lv_at hl 3 rfl) ?_
  obtain ⟨v15, h15, h⟩ := bnd h
  try dsimp only at h
  refine w_callV (L := (LC E b)) (k := o0 + 3) (As := [.int x1, .int x3]) (rest := []) C hW hS (kdlt (chX5_1 ho0) (by decide)) (ccX3 (chX5_1 ho0)) kcX3 (mX3_put (o0 + 3) x1 x3 (chX5_1 ho0) v6 v15 h15) cwX3_put cvX3_put rfl mlX5_38 ⟨by decide, by decide⟩ rfl hl.1 (Nat.le_of_ble_eq_true rfl) ⟨by decide, by decide⟩ dX5_put_15 rfl (fun H locs hW hS => ?_)
  refine lv_aload_n hx0 hb dX5_put_18 rfl (lv_at hl 0 rfl) ?_
  refine gtX5_2 (k := o0) C hW ho0 flX5_23 dX5_put_19 ?_
  refine lv_iload_n hx0 hb dX5_put_22 rfl (lv_at hl 1 rfl) ?_
  refine lv_iload hx0 hb dX5_put_23 (lv_at hl 4 rfl) ?_
  obtain ⟨v25, h25, h⟩ := bnd h
  try dsimp only at h
  refine w_callV (L := (LC E b)) (k := o0 + 5) (As := [.int x1, .int x4]) (rest := []) C hW hS (kdlt (chX5_2 ho0) (by decide)) (ccX3 (chX5_2 ho0)) kcX3 (mX3_put (o0 + 5) x1 x4 (chX5_2 ho0) v15 v25 h25) cwX3_put cvX3_put rfl mlX5_38 ⟨by decide, by decide⟩ rfl hl.1 (Nat.le_of_ble_eq_true rfl) ⟨by decide, by decide⟩ dX5_put_25 rfl (fun H locs hW hS => ?_)
  cases h
  exact w_vret C hW hS dX5_put_28
def fX5_putFrom (o0 : Nat) (o1 : Nat) (x2 : Int32) (x3 : Int32) (σ : Mem) : Option Mem :=
  (fX5_kindOf o1 x2 σ).bind fun v4 => (fX5_firstOf o1 x2 σ).bind fun v9 => (fX5_secondOf o1 x2 σ).bind fun v14 => (fX5_put o0 x3 v4 v9 v14 σ).bind fun v17 => some v17
set_option maxRecDepth 100000 in
set_option maxHeartbeats 4000000 in
theorem mX5_putFrom {l : Launch} {E : Ev} {b : Nat} (o0 : Nat) (o1 : Nat) (x2 : Int32) (x3 : Int32) (ho0 : kd o0 = 5) (ho1 : kd o1 = 5) (σ : Mem) (r : Mem) (h : fX5_putFrom o0 o1 x2 x3 σ = some r) : Met l yX5_putFrom (tw yX5_putFrom cX5_putFrom 4 none) { frames := 2, cells := 0, slots := 0, locals := 46 } (va_Pc [.ref (b + o0), .ref (b + o1), .int x2, .int x3] (Pr l E (LC E b) σ)) (Qz E (LC E b) none r) 0 0 (La (LC E b)) := by
  refine ct_of (by decide) (Nat.le_of_ble_eq_true rfl) ?_
  intro p e s m below meth c C hW hS ls hl
  have hx0 := C.1
  have hb := C.2.1
  have hl : lv_has ls 4 [(0, .ref (b + o0)), (1, .ref (b + o1)), (2, .int x2), (3, .int x3)] := hl
  unfold fX5_putFrom at h
  refine lv_aload_n hx0 hb dX5_putFrom_0 rfl (lv_at hl 0 rfl) ?_
  refine lv_iload_n hx0 hb dX5_putFrom_1 rfl (lv_at hl 3 rfl) ?_
  refine lv_aload_n hx0 hb dX5_putFrom_2 rfl (lv_at hl 1 rfl) ?_
  refine lv_iload_n hx0 hb dX5_putFrom_3 rfl (lv_at hl 2 rfl) ?_
  obtain ⟨v4, h4, h⟩ := bnd h
  try dsimp only at h
  refine w_callV (L := (LC E b)) (k := o1) (As := [.int x2]) (rest := [.int x3, .ref (b + o0)]) C hW hS (kdlt ho1 (by decide)) (ccX5 ho1) kcX5 (mX5_kindOf o1 x2 ho1 σ v4 h4) cwX5_kindOf cvX5_kindOf rfl mlX5_42 ⟨by decide, by decide⟩ rfl hl.1 (Nat.le_of_ble_eq_true rfl) ⟨by decide, by decide⟩ dX5_putFrom_4 rfl (fun H locs hW hS => ?_)
  refine lv_aload_n hx0 hb dX5_putFrom_7 rfl (lv_at hl 1 rfl) ?_
  refine lv_iload_n hx0 hb dX5_putFrom_8 rfl (lv_at hl 2 rfl) ?_
  obtain ⟨v9, h9, h⟩ := bnd h
  try dsimp only at h
  refine w_callV (L := (LC E b)) (k := o1) (As := [.int x2]) (rest := [.int v4, .int x3, .ref (b + o0)]) C hW hS (kdlt ho1 (by decide)) (ccX5 ho1) kcX5 (mX5_firstOf o1 x2 ho1 σ v9 h9) cwX5_firstOf cvX5_firstOf rfl mlX5_45 ⟨by decide, by decide⟩ rfl hl.1 (Nat.le_of_ble_eq_true rfl) ⟨by decide, by decide⟩ dX5_putFrom_9 rfl (fun H locs hW hS => ?_)
  refine lv_aload_n hx0 hb dX5_putFrom_12 rfl (lv_at hl 1 rfl) ?_
  refine lv_iload_n hx0 hb dX5_putFrom_13 rfl (lv_at hl 2 rfl) ?_
  obtain ⟨v14, h14, h⟩ := bnd h
  try dsimp only at h
  refine w_callV (L := (LC E b)) (k := o1) (As := [.int x2]) (rest := [.int v9, .int v4, .int x3, .ref (b + o0)]) C hW hS (kdlt ho1 (by decide)) (ccX5 ho1) kcX5 (mX5_secondOf o1 x2 ho1 σ v14 h14) cwX5_secondOf cvX5_secondOf rfl mlX5_48 ⟨by decide, by decide⟩ rfl hl.1 (Nat.le_of_ble_eq_true rfl) ⟨by decide, by decide⟩ dX5_putFrom_14 rfl (fun H locs hW hS => ?_)
  obtain ⟨v17, h17, h⟩ := bnd h
  try dsimp only at h
  refine w_callV (L := (LC E b)) (k := o0) (As := [.int x3, .int v4, .int v9, .int v14]) (rest := []) C hW hS (kdlt ho0 (by decide)) (ccX5 ho0) kcX5 (mX5_put o0 x3 v4 v9 v14 ho0 σ v17 h17) cwX5_put cvX5_put rfl mlX5_51 ⟨by decide, by decide⟩ rfl hl.1 (Nat.le_of_ble_eq_true rfl) ⟨by decide, by decide⟩ dX5_putFrom_17 rfl (fun H locs hW hS => ?_)
  cases h
  exact w_vret C hW hS dX5_putFrom_20
def fX5_add (o0 : Nat) (x1 : Int32) (x2 : Int32) (x3 : Int32) (σ : Mem) : Option Mem :=
  (fX5_takesScan o0 σ).bind fun v1 => if v1 = 0 then (some σ) else ((fX5_put o0 (σ o0 3) x1 x2 x3 σ).bind fun v15 => some (up v15 o0 3 ((v15 o0 3) + (1 : Int32))))
set_option maxRecDepth 100000 in
set_option maxHeartbeats 4000000 in
theorem mX5_add {l : Launch} {E : Ev} {b : Nat} (o0 : Nat) (x1 : Int32) (x2 : Int32) (x3 : Int32) (ho0 : kd o0 = 5) (σ : Mem) (r : Mem) (h : fX5_add o0 x1 x2 x3 σ = some r) : Met l yX5_add (tw yX5_add cX5_add 4 none) { frames := 2, cells := 0, slots := 0, locals := 46 } (va_Pc [.ref (b + o0), .int x1, .int x2, .int x3] (Pr l E (LC E b) σ)) (Qz E (LC E b) none r) 0 0 (La (LC E b)) := by
  refine ct_of (by decide) (Nat.le_of_ble_eq_true rfl) ?_
  intro p e s m below meth c C hW hS ls hl
  have hx0 := C.1
  have hb := C.2.1
  have hl : lv_has ls 4 [(0, .ref (b + o0)), (1, .int x1), (2, .int x2), (3, .int x3)] := hl
  unfold fX5_add at h
  refine lv_aload_n hx0 hb dX5_add_0 rfl (lv_at hl 0 rfl) ?_
  obtain ⟨v1, h1, h⟩ := bnd h
  try dsimp only at h
  refine w_callV (L := (LC E b)) (k := o0) (As := []) (rest := []) C hW hS (kdlt ho0 (by decide)) (ccX5 ho0) kcX5 (mX5_takesScan o0 ho0 σ v1 h1) cwX5_takesScan cvX5_takesScan rfl mlX5_54 ⟨by decide, by decide⟩ rfl hl.1 (Nat.le_of_ble_eq_true rfl) ⟨by decide, by decide⟩ dX5_add_1 rfl (fun H locs hW hS => ?_)
  refine lv_if_eq (tgt := 28) hx0 hb dX5_add_4 (by decide) (fun c4 => ?_) (fun c4 => ?_)
  · rw [if_pos c4] at h
    cases h
    exact w_vret C hW hS dX5_add_28
  · rw [if_neg c4] at h
    refine lv_aload_n hx0 hb dX5_add_7 rfl (lv_at hl 0 rfl) ?_
    refine lv_aload_n hx0 hb dX5_add_8 rfl (lv_at hl 0 rfl) ?_
    refine gtX5_3 (k := o0) C hW ho0 flX5_26 dX5_add_9 ?_
    refine lv_iload_n hx0 hb dX5_add_12 rfl (lv_at hl 1 rfl) ?_
    refine lv_iload_n hx0 hb dX5_add_13 rfl (lv_at hl 2 rfl) ?_
    refine lv_iload_n hx0 hb dX5_add_14 rfl (lv_at hl 3 rfl) ?_
    obtain ⟨v15, h15, h⟩ := bnd h
    try dsimp only at h
    refine w_callV (L := (LC E b)) (k := o0) (As := [.int (σ o0 3), .int x1, .int x2, .int x3]) (rest := []) C hW hS (kdlt ho0 (by decide)) (ccX5 ho0) kcX5 (mX5_put o0 (σ o0 3) x1 x2 x3 ho0 σ v15 h15) cwX5_put cvX5_put rfl mlX5_51 ⟨by decide, by decide⟩ rfl hl.1 (Nat.le_of_ble_eq_true rfl) ⟨by decide, by decide⟩ dX5_add_15 rfl (fun H locs hW hS => ?_)
    refine lv_aload_n hx0 hb dX5_add_18 rfl (lv_at hl 0 rfl) ?_
    refine lv_dup hx0 hb dX5_add_19 rfl ?_
    refine gtX5_3 (k := o0) C hW ho0 flX5_26 dX5_add_20 ?_
    refine lv_iconst (v := (1 : Int32)) hx0 hb dX5_add_23 (by decide) ?_
    refine lv_iadd hx0 hb dX5_add_24 ?_
    refine ptX5_3 (k := o0) C hW hS ho0 flX5_26 dX5_add_25 (fun H locs hW hS => ?_)
    cases h
    exact w_vret C hW hS dX5_add_28
def fX5_shift_l23 (o0 : Nat) (x1 : Int32) (x2 : Int32) (x3 : Int32) (x4 : Int32) (x5 : Int32) : Nat → Int32 → Mem → Option (Int32 × Mem)
  | 0, _, _ => none
  | n + 1, x6, σ => if x2 ≤ x6 then (some (x6, σ)) else ((fX5_putFrom o0 o0 (x6 + (1 : Int32)) x6 σ).bind fun v37 => fX5_shift_l23 o0 x1 x2 x3 x4 x5 n (x6 + (1 : Int32)) v37)
set_option maxRecDepth 100000 in
set_option maxHeartbeats 4000000 in
theorem bX5_shift_l23 {p : Program} {l : Launch} {e : Env} {s : State} {m : MethodId} {args : Array Value} {below : List Frame} {meth : Method} {c : Code} {E : Ev} {b : Nat} (C : Cx p l s m args meth c E cX5_shift 7 RX5 none) (o0 : Nat) (x1 : Int32) (x2 : Int32) (x3 : Int32) (x4 : Int32) (x5 : Int32) (ho0 : kd o0 = 5) {Qf : State → Prop} {q : Int32 × Mem} (hx : ∀ H locs ls, Wd E (LC E b) q.2 H → va_S (La (LC E b)) s.heap H locs → lv_has ls 7 [(0, .ref (b + o0)), (1, .int x1), (2, .int x2), (3, .int x3), (4, .int x4), (5, .int x5), (6, .int q.1)] → W p l e { frames := 3, cells := 0, slots := 0, locals := 69 } s m args below meth c H locs 0 0 Qf (F0 m 46 ls [])) : ∀ (n : Nat) (x6 : Int32) (σ : Mem), fX5_shift_l23 o0 x1 x2 x3 x4 x5 n x6 σ = some q → ∀ (H : Heap) (locs : List Loc) (ls : Array Slot), Wd E (LC E b) σ H → va_S (La (LC E b)) s.heap H locs → lv_has ls 7 [(0, .ref (b + o0)), (1, .int x1), (2, .int x2), (3, .int x3), (4, .int x4), (5, .int x5), (6, .int x6)] → W p l e { frames := 3, cells := 0, slots := 0, locals := 69 } s m args below meth c H locs 0 0 Qf (F0 m 23 ls []) := by
  have hx0 := C.1
  have hb := C.2.1
  intro n
  induction n with
  | zero => intro x6 σ h; simp [fX5_shift_l23] at h
  | succ n ih =>
    intro x6 σ h H locs ls hW hS hl
    unfold fX5_shift_l23 at h
    refine lv_iload hx0 hb dX5_shift_23 (lv_at hl 6 rfl) ?_
    refine lv_iload_n hx0 hb dX5_shift_25 rfl (lv_at hl 2 rfl) ?_
    refine lv_icmp_ge (tgt := 46) hx0 hb dX5_shift_26 (by decide) (fun c26 => ?_) (fun c26 => ?_)
    · rw [if_pos c26] at h
      cases h
      exact hx _ _ _ hW hS (lv_sub hl [0, 1, 2, 3, 4, 5, 6] rfl)
    · rw [if_neg c26] at h
      refine lv_aload_n hx0 hb dX5_shift_29 rfl (lv_at hl 0 rfl) ?_
      refine lv_aload_n hx0 hb dX5_shift_30 rfl (lv_at hl 0 rfl) ?_
      refine lv_iload hx0 hb dX5_shift_31 (lv_at hl 6 rfl) ?_
      refine lv_iconst (v := (1 : Int32)) hx0 hb dX5_shift_33 (by decide) ?_
      refine lv_iadd hx0 hb dX5_shift_34 ?_
      refine lv_iload hx0 hb dX5_shift_35 (lv_at hl 6 rfl) ?_
      obtain ⟨v37, h37, h⟩ := bnd h
      try dsimp only at h
      refine w_callV (L := (LC E b)) (k := o0) (As := [.ref (b + o0), .int (x6 + (1 : Int32)), .int x6]) (rest := []) C hW hS (kdlt ho0 (by decide)) (ccX5 ho0) kcX5 (mX5_putFrom o0 o0 (x6 + (1 : Int32)) x6 ho0 ho0 σ v37 h37) cwX5_putFrom cvX5_putFrom rfl mlX5_58 ⟨by decide, by decide⟩ rfl hl.1 (Nat.le_of_ble_eq_true rfl) ⟨by decide, by decide⟩ dX5_shift_37 rfl (fun H locs hW hS => ?_)
      refine lv_iinc (v := x6 + (1 : Int32)) (lv' := [(6, .int (x6 + (1 : Int32))), (0, .ref (b + o0)), (1, .int x1), (2, .int x2), (3, .int x3), (4, .int x4), (5, .int x5)]) hx0 hb dX5_shift_40 hl (k := 6) rfl rfl (by decide) rfl (fun ls hl => ?_)
      refine lv_goto (tgt := 23) hx0 hb dX5_shift_43 (by decide) ?_
      exact ih (x6 + (1 : Int32)) v37 h _ _ _ hW hS (lv_sub hl [1, 2, 3, 4, 5, 6, 0] rfl)
def fX5_shift_l49 (o0 : Nat) (x2 : Int32) (x3 : Int32) (x4 : Int32) (x5 : Int32) : Nat → Int32 → Mem → Option (Int32 × Mem)
  | 0, _, _ => none
  | n + 1, x6, σ => if x6 ≤ x2 then (some (x6, σ)) else ((fX5_putFrom o0 o0 (x6 - (1 : Int32)) x6 σ).bind fun v63 => fX5_shift_l49 o0 x2 x3 x4 x5 n (x6 + (-1 : Int32)) v63)
set_option maxRecDepth 100000 in
set_option maxHeartbeats 4000000 in
theorem bX5_shift_l49 {p : Program} {l : Launch} {e : Env} {s : State} {m : MethodId} {args : Array Value} {below : List Frame} {meth : Method} {c : Code} {E : Ev} {b : Nat} (C : Cx p l s m args meth c E cX5_shift 7 RX5 none) (o0 : Nat) (x2 : Int32) (x3 : Int32) (x4 : Int32) (x5 : Int32) (ho0 : kd o0 = 5) {Qf : State → Prop} {q : Int32 × Mem} (hx : ∀ H locs ls, Wd E (LC E b) q.2 H → va_S (La (LC E b)) s.heap H locs → lv_has ls 7 [(0, .ref (b + o0)), (2, .int x2), (3, .int x3), (4, .int x4), (5, .int x5), (6, .int q.1)] → W p l e { frames := 3, cells := 0, slots := 0, locals := 69 } s m args below meth c H locs 0 0 Qf (F0 m 72 ls [])) : ∀ (n : Nat) (x6 : Int32) (σ : Mem), fX5_shift_l49 o0 x2 x3 x4 x5 n x6 σ = some q → ∀ (H : Heap) (locs : List Loc) (ls : Array Slot), Wd E (LC E b) σ H → va_S (La (LC E b)) s.heap H locs → lv_has ls 7 [(0, .ref (b + o0)), (2, .int x2), (3, .int x3), (4, .int x4), (5, .int x5), (6, .int x6)] → W p l e { frames := 3, cells := 0, slots := 0, locals := 69 } s m args below meth c H locs 0 0 Qf (F0 m 49 ls []) := by
  have hx0 := C.1
  have hb := C.2.1
  intro n
  induction n with
  | zero => intro x6 σ h; simp [fX5_shift_l49] at h
  | succ n ih =>
    intro x6 σ h H locs ls hW hS hl
    unfold fX5_shift_l49 at h
    refine lv_iload hx0 hb dX5_shift_49 (lv_at hl 5 rfl) ?_
    refine lv_iload_n hx0 hb dX5_shift_51 rfl (lv_at hl 1 rfl) ?_
    refine lv_icmp_le (tgt := 72) hx0 hb dX5_shift_52 (by decide) (fun c52 => ?_) (fun c52 => ?_)
    · rw [if_pos c52] at h
      cases h
      exact hx _ _ _ hW hS (lv_sub hl [0, 1, 2, 3, 4, 5] rfl)
    · rw [if_neg c52] at h
      refine lv_aload_n hx0 hb dX5_shift_55 rfl (lv_at hl 0 rfl) ?_
      refine lv_aload_n hx0 hb dX5_shift_56 rfl (lv_at hl 0 rfl) ?_
      refine lv_iload hx0 hb dX5_shift_57 (lv_at hl 5 rfl) ?_
      refine lv_iconst (v := (1 : Int32)) hx0 hb dX5_shift_59 (by decide) ?_
      refine lv_isub hx0 hb dX5_shift_60 ?_
      refine lv_iload hx0 hb dX5_shift_61 (lv_at hl 5 rfl) ?_
      obtain ⟨v63, h63, h⟩ := bnd h
      try dsimp only at h
      refine w_callV (L := (LC E b)) (k := o0) (As := [.ref (b + o0), .int (x6 - (1 : Int32)), .int x6]) (rest := []) C hW hS (kdlt ho0 (by decide)) (ccX5 ho0) kcX5 (mX5_putFrom o0 o0 (x6 - (1 : Int32)) x6 ho0 ho0 σ v63 h63) cwX5_putFrom cvX5_putFrom rfl mlX5_58 ⟨by decide, by decide⟩ rfl hl.1 (Nat.le_of_ble_eq_true rfl) ⟨by decide, by decide⟩ dX5_shift_63 rfl (fun H locs hW hS => ?_)
      refine lv_iinc (v := x6 + (-1 : Int32)) (lv' := [(6, .int (x6 + (-1 : Int32))), (0, .ref (b + o0)), (2, .int x2), (3, .int x3), (4, .int x4), (5, .int x5)]) hx0 hb dX5_shift_66 hl (k := 5) rfl rfl (by decide) rfl (fun ls hl => ?_)
      refine lv_goto (tgt := 49) hx0 hb dX5_shift_69 (by decide) ?_
      exact ih (x6 + (-1 : Int32)) v63 h _ _ _ hW hS (lv_sub hl [1, 2, 3, 4, 5, 0] rfl)
def fX5_shift (o0 : Nat) (x1 : Int32) (x2 : Int32) (σ : Mem) : Option Mem :=
  (fX5_kindOf o0 x1 σ).bind fun v2 => (fX5_firstOf o0 x1 σ).bind fun v8 => (fX5_secondOf o0 x1 σ).bind fun v15 => (fX5_shift_l23 o0 x1 x2 v2 v8 v15 FU x1 σ).bind fun q23 => (fX5_shift_l49 o0 x2 v2 v8 v15 FU x1 q23.2).bind fun q49 => (fX5_put o0 x2 v2 v8 v15 q49.2).bind fun v79 => some v79
set_option maxRecDepth 100000 in
set_option maxHeartbeats 4000000 in
theorem mX5_shift {l : Launch} {E : Ev} {b : Nat} (o0 : Nat) (x1 : Int32) (x2 : Int32) (ho0 : kd o0 = 5) (σ : Mem) (r : Mem) (h : fX5_shift o0 x1 x2 σ = some r) : Met l yX5_shift (tw yX5_shift cX5_shift 7 none) { frames := 3, cells := 0, slots := 0, locals := 69 } (va_Pc [.ref (b + o0), .int x1, .int x2] (Pr l E (LC E b) σ)) (Qz E (LC E b) none r) 0 0 (La (LC E b)) := by
  refine ct_of (by decide) (Nat.le_of_ble_eq_true rfl) ?_
  intro p e s m below meth c C hW hS ls hl
  have hx0 := C.1
  have hb := C.2.1
  have hl : lv_has ls 7 [(0, .ref (b + o0)), (1, .int x1), (2, .int x2)] := hl
  unfold fX5_shift at h
  refine lv_aload_n hx0 hb dX5_shift_0 rfl (lv_at hl 0 rfl) ?_
  refine lv_iload_n hx0 hb dX5_shift_1 rfl (lv_at hl 1 rfl) ?_
  obtain ⟨v2, h2, h⟩ := bnd h
  try dsimp only at h
  refine w_callV (L := (LC E b)) (k := o0) (As := [.int x1]) (rest := []) C hW hS (kdlt ho0 (by decide)) (ccX5 ho0) kcX5 (mX5_kindOf o0 x1 ho0 σ v2 h2) cwX5_kindOf cvX5_kindOf rfl mlX5_42 ⟨by decide, by decide⟩ rfl hl.1 (Nat.le_of_ble_eq_true rfl) ⟨by decide, by decide⟩ dX5_shift_2 rfl (fun H locs hW hS => ?_)
  refine lv_istore_n (lv' := [(3, .int v2), (0, .ref (b + o0)), (1, .int x1), (2, .int x2)]) hx0 hb dX5_shift_5 rfl hl (by decide) rfl (fun ls hl => ?_)
  refine lv_aload_n hx0 hb dX5_shift_6 rfl (lv_at hl 1 rfl) ?_
  refine lv_iload_n hx0 hb dX5_shift_7 rfl (lv_at hl 2 rfl) ?_
  obtain ⟨v8, h8, h⟩ := bnd h
  try dsimp only at h
  refine w_callV (L := (LC E b)) (k := o0) (As := [.int x1]) (rest := []) C hW hS (kdlt ho0 (by decide)) (ccX5 ho0) kcX5 (mX5_firstOf o0 x1 ho0 σ v8 h8) cwX5_firstOf cvX5_firstOf rfl mlX5_45 ⟨by decide, by decide⟩ rfl hl.1 (Nat.le_of_ble_eq_true rfl) ⟨by decide, by decide⟩ dX5_shift_8 rfl (fun H locs hW hS => ?_)
  refine lv_istore (lv' := [(4, .int v8), (3, .int v2), (0, .ref (b + o0)), (1, .int x1), (2, .int x2)]) hx0 hb dX5_shift_11 hl (by decide) rfl (fun ls hl => ?_)
  refine lv_aload_n hx0 hb dX5_shift_13 rfl (lv_at hl 2 rfl) ?_
  refine lv_iload_n hx0 hb dX5_shift_14 rfl (lv_at hl 3 rfl) ?_
  obtain ⟨v15, h15, h⟩ := bnd h
  try dsimp only at h
  refine w_callV (L := (LC E b)) (k := o0) (As := [.int x1]) (rest := []) C hW hS (kdlt ho0 (by decide)) (ccX5 ho0) kcX5 (mX5_secondOf o0 x1 ho0 σ v15 h15) cwX5_secondOf cvX5_secondOf rfl mlX5_48 ⟨by decide, by decide⟩ rfl hl.1 (Nat.le_of_ble_eq_true rfl) ⟨by decide, by decide⟩ dX5_shift_15 rfl (fun H locs hW hS => ?_)
  refine lv_istore (lv' := [(5, .int v15), (4, .int v8), (3, .int v2), (0, .ref (b + o0)), (1, .int x1), (2, .int x2)]) hx0 hb dX5_shift_18 hl (by decide) rfl (fun ls hl => ?_)
  refine lv_iload_n hx0 hb dX5_shift_20 rfl (lv_at hl 4 rfl) ?_
  refine lv_istore (lv' := [(6, .int x1), (5, .int v15), (4, .int v8), (3, .int v2), (0, .ref (b + o0)), (1, .int x1), (2, .int x2)]) hx0 hb dX5_shift_21 hl (by decide) rfl (fun ls hl => ?_)
  obtain ⟨q23, h23, h⟩ := bnd h
  try dsimp only at h
  refine bX5_shift_l23 C o0 x1 x2 v2 v8 v15 ho0 (q := q23) ?_ FU x1 σ h23 _ _ _ hW hS (lv_sub hl [4, 5, 6, 3, 2, 1, 0] rfl)
  intro H locs ls hW hS hl
  refine lv_iload_n hx0 hb dX5_shift_46 rfl (lv_at hl 1 rfl) ?_
  refine lv_istore (lv' := [(6, .int x1), (0, .ref (b + o0)), (1, .int x1), (2, .int x2), (3, .int v2), (4, .int v8), (5, .int v15)]) hx0 hb dX5_shift_47 hl (by decide) rfl (fun ls hl => ?_)
  obtain ⟨q49, h49, h⟩ := bnd h
  try dsimp only at h
  refine bX5_shift_l49 C o0 x2 v2 v8 v15 ho0 (q := q49) ?_ FU x1 q23.2 h49 _ _ _ hW hS (lv_sub hl [1, 3, 4, 5, 6, 0] rfl)
  intro H locs ls hW hS hl
  refine lv_aload_n hx0 hb dX5_shift_72 rfl (lv_at hl 0 rfl) ?_
  refine lv_iload_n hx0 hb dX5_shift_73 rfl (lv_at hl 1 rfl) ?_
  refine lv_iload_n hx0 hb dX5_shift_74 rfl (lv_at hl 2 rfl) ?_
  refine lv_iload hx0 hb dX5_shift_75 (lv_at hl 3 rfl) ?_
  refine lv_iload hx0 hb dX5_shift_77 (lv_at hl 4 rfl) ?_
  obtain ⟨v79, h79, h⟩ := bnd h
  try dsimp only at h
  refine w_callV (L := (LC E b)) (k := o0) (As := [.int x2, .int v2, .int v8, .int v15]) (rest := []) C hW hS (kdlt ho0 (by decide)) (ccX5 ho0) kcX5 (mX5_put o0 x2 v2 v8 v15 ho0 q49.2 v79 h79) cwX5_put cvX5_put rfl mlX5_51 ⟨by decide, by decide⟩ rfl hl.1 (Nat.le_of_ble_eq_true rfl) ⟨by decide, by decide⟩ dX5_shift_79 rfl (fun H locs hW hS => ?_)
  cases h
  exact w_vret C hW hS dX5_shift_82
def fX5_dropAt (o0 : Nat) (x1 : Int32) (σ : Mem) : Option Mem :=
  if x1 < 0 then (some σ) else (if (σ o0 3) ≤ x1 then (some σ) else ((fX5_shift o0 x1 ((σ o0 3) - (1 : Int32)) σ).bind fun v20 => some (up v20 o0 3 ((v20 o0 3) - (1 : Int32)))))
set_option maxRecDepth 100000 in
set_option maxHeartbeats 4000000 in
theorem mX5_dropAt {l : Launch} {E : Ev} {b : Nat} (o0 : Nat) (x1 : Int32) (ho0 : kd o0 = 5) (σ : Mem) (r : Mem) (h : fX5_dropAt o0 x1 σ = some r) : Met l yX5_dropAt (tw yX5_dropAt cX5_dropAt 2 none) { frames := 4, cells := 0, slots := 0, locals := 95 } (va_Pc [.ref (b + o0), .int x1] (Pr l E (LC E b) σ)) (Qz E (LC E b) none r) 0 0 (La (LC E b)) := by
  refine ct_of (by decide) (Nat.le_of_ble_eq_true rfl) ?_
  intro p e s m below meth c C hW hS ls hl
  have hx0 := C.1
  have hb := C.2.1
  have hl : lv_has ls 2 [(0, .ref (b + o0)), (1, .int x1)] := hl
  unfold fX5_dropAt at h
  refine lv_iload_n hx0 hb dX5_dropAt_0 rfl (lv_at hl 1 rfl) ?_
  refine lv_if_lt (tgt := 33) hx0 hb dX5_dropAt_1 (by decide) (fun c1 => ?_) (fun c1 => ?_)
  · rw [if_pos c1] at h
    cases h
    exact w_vret C hW hS dX5_dropAt_33
  · rw [if_neg c1] at h
    refine lv_iload_n hx0 hb dX5_dropAt_4 rfl (lv_at hl 1 rfl) ?_
    refine lv_aload_n hx0 hb dX5_dropAt_5 rfl (lv_at hl 0 rfl) ?_
    refine gtX5_3 (k := o0) C hW ho0 flX5_26 dX5_dropAt_6 ?_
    refine lv_icmp_ge (tgt := 33) hx0 hb dX5_dropAt_9 (by decide) (fun c9 => ?_) (fun c9 => ?_)
    · rw [if_pos c9] at h
      cases h
      exact w_vret C hW hS dX5_dropAt_33
    · rw [if_neg c9] at h
      refine lv_aload_n hx0 hb dX5_dropAt_12 rfl (lv_at hl 0 rfl) ?_
      refine lv_iload_n hx0 hb dX5_dropAt_13 rfl (lv_at hl 1 rfl) ?_
      refine lv_aload_n hx0 hb dX5_dropAt_14 rfl (lv_at hl 0 rfl) ?_
      refine gtX5_3 (k := o0) C hW ho0 flX5_26 dX5_dropAt_15 ?_
      refine lv_iconst (v := (1 : Int32)) hx0 hb dX5_dropAt_18 (by decide) ?_
      refine lv_isub hx0 hb dX5_dropAt_19 ?_
      obtain ⟨v20, h20, h⟩ := bnd h
      try dsimp only at h
      refine w_callV (L := (LC E b)) (k := o0) (As := [.int x1, .int ((σ o0 3) - (1 : Int32))]) (rest := []) C hW hS (kdlt ho0 (by decide)) (ccX5 ho0) kcX5 (mX5_shift o0 x1 ((σ o0 3) - (1 : Int32)) ho0 σ v20 h20) cwX5_shift cvX5_shift rfl mlX5_62 ⟨by decide, by decide⟩ rfl hl.1 (Nat.le_of_ble_eq_true rfl) ⟨by decide, by decide⟩ dX5_dropAt_20 rfl (fun H locs hW hS => ?_)
      refine lv_aload_n hx0 hb dX5_dropAt_23 rfl (lv_at hl 0 rfl) ?_
      refine lv_dup hx0 hb dX5_dropAt_24 rfl ?_
      refine gtX5_3 (k := o0) C hW ho0 flX5_26 dX5_dropAt_25 ?_
      refine lv_iconst (v := (1 : Int32)) hx0 hb dX5_dropAt_28 (by decide) ?_
      refine lv_isub hx0 hb dX5_dropAt_29 ?_
      refine ptX5_3 (k := o0) C hW hS ho0 flX5_26 dX5_dropAt_30 (fun H locs hW hS => ?_)
      cases h
      exact w_vret C hW hS dX5_dropAt_33
def fX5_arrange_l2 (o0 : Nat) (o1 : Nat) (o2 : Nat) : Nat → Int32 → Mem → Option (Int32 × Mem)
  | 0, _, _ => none
  | n + 1, x3, σ => if (σ o0 3) ≤ x3 then (some (x3, σ)) else ((fX3_at o2 x3 σ).bind fun v14 => (fX5_putFrom o0 o1 v14 x3 σ).bind fun v18 => fX5_arrange_l2 o0 o1 o2 n (x3 + (1 : Int32)) v18)
set_option maxRecDepth 100000 in
set_option maxHeartbeats 4000000 in
theorem bX5_arrange_l2 {p : Program} {l : Launch} {e : Env} {s : State} {m : MethodId} {args : Array Value} {below : List Frame} {meth : Method} {c : Code} {E : Ev} {b : Nat} (C : Cx p l s m args meth c E cX5_arrange 4 RX5 none) (o0 : Nat) (o1 : Nat) (o2 : Nat) (ho0 : kd o0 = 5) (ho1 : kd o1 = 5) (ho2 : kd o2 = 3) {Qf : State → Prop} {q : Int32 × Mem} (hx : ∀ H locs ls, Wd E (LC E b) q.2 H → va_S (La (LC E b)) s.heap H locs → lv_has ls 4 [(0, .ref (b + o0)), (1, .ref (b + o1)), (2, .ref (b + o2)), (3, .int q.1)] → W p l e { frames := 3, cells := 0, slots := 0, locals := 69 } s m args below meth c H locs 0 0 Qf (F0 m 27 ls [])) : ∀ (n : Nat) (x3 : Int32) (σ : Mem), fX5_arrange_l2 o0 o1 o2 n x3 σ = some q → ∀ (H : Heap) (locs : List Loc) (ls : Array Slot), Wd E (LC E b) σ H → va_S (La (LC E b)) s.heap H locs → lv_has ls 4 [(0, .ref (b + o0)), (1, .ref (b + o1)), (2, .ref (b + o2)), (3, .int x3)] → W p l e { frames := 3, cells := 0, slots := 0, locals := 69 } s m args below meth c H locs 0 0 Qf (F0 m 2 ls []) := by
  have hx0 := C.1
  have hb := C.2.1
  intro n
  induction n with
  | zero => intro x3 σ h; simp [fX5_arrange_l2] at h
  | succ n ih =>
    intro x3 σ h H locs ls hW hS hl
    unfold fX5_arrange_l2 at h
    refine lv_iload_n hx0 hb dX5_arrange_2 rfl (lv_at hl 3 rfl) ?_
    refine lv_aload_n hx0 hb dX5_arrange_3 rfl (lv_at hl 0 rfl) ?_
    refine gtX5_3 (k := o0) C hW ho0 flX5_26 dX5_arrange_4 ?_
    refine lv_icmp_ge (tgt := 27) hx0 hb dX5_arrange_7 (by decide) (fun c7 => ?_) (fun c7 => ?_)
    · rw [if_pos c7] at h
      cases h
      exact hx _ _ _ hW hS (lv_sub hl [0, 1, 2, 3] rfl)
    · rw [if_neg c7] at h
      refine lv_aload_n hx0 hb dX5_arrange_10 rfl (lv_at hl 0 rfl) ?_
      refine lv_aload_n hx0 hb dX5_arrange_11 rfl (lv_at hl 1 rfl) ?_
      refine lv_aload_n hx0 hb dX5_arrange_12 rfl (lv_at hl 2 rfl) ?_
      refine lv_iload_n hx0 hb dX5_arrange_13 rfl (lv_at hl 3 rfl) ?_
      obtain ⟨v14, h14, h⟩ := bnd h
      try dsimp only at h
      refine w_callV (L := (LC E b)) (k := o2) (As := [.int x3]) (rest := [.ref (b + o1), .ref (b + o0)]) C hW hS (kdlt ho2 (by decide)) (ccX3 ho2) kcX3 (mX3_at o2 x3 ho2 σ v14 h14) cwX3_at cvX3_at rfl mlX5_34 ⟨by decide, by decide⟩ rfl hl.1 (Nat.le_of_ble_eq_true rfl) ⟨by decide, by decide⟩ dX5_arrange_14 rfl (fun H locs hW hS => ?_)
      refine lv_iload_n hx0 hb dX5_arrange_17 rfl (lv_at hl 3 rfl) ?_
      obtain ⟨v18, h18, h⟩ := bnd h
      try dsimp only at h
      refine w_callV (L := (LC E b)) (k := o0) (As := [.ref (b + o1), .int v14, .int x3]) (rest := []) C hW hS (kdlt ho0 (by decide)) (ccX5 ho0) kcX5 (mX5_putFrom o0 o1 v14 x3 ho0 ho1 σ v18 h18) cwX5_putFrom cvX5_putFrom rfl mlX5_58 ⟨by decide, by decide⟩ rfl hl.1 (Nat.le_of_ble_eq_true rfl) ⟨by decide, by decide⟩ dX5_arrange_18 rfl (fun H locs hW hS => ?_)
      refine lv_iinc (v := x3 + (1 : Int32)) (lv' := [(3, .int (x3 + (1 : Int32))), (0, .ref (b + o0)), (1, .ref (b + o1)), (2, .ref (b + o2))]) hx0 hb dX5_arrange_21 hl (k := 3) rfl rfl (by decide) rfl (fun ls hl => ?_)
      refine lv_goto (tgt := 2) hx0 hb dX5_arrange_24 (by decide) ?_
      exact ih (x3 + (1 : Int32)) v18 h _ _ _ hW hS (lv_sub hl [1, 2, 3, 0] rfl)
def fX5_arrange (o0 : Nat) (o1 : Nat) (o2 : Nat) (σ : Mem) : Option Mem :=
  (fX5_arrange_l2 o0 o1 o2 FU (0 : Int32) σ).bind fun q2 => some q2.2
set_option maxRecDepth 100000 in
set_option maxHeartbeats 4000000 in
theorem mX5_arrange {l : Launch} {E : Ev} {b : Nat} (o0 : Nat) (o1 : Nat) (o2 : Nat) (ho0 : kd o0 = 5) (ho1 : kd o1 = 5) (ho2 : kd o2 = 3) (σ : Mem) (r : Mem) (h : fX5_arrange o0 o1 o2 σ = some r) : Met l yX5_arrange (tw yX5_arrange cX5_arrange 4 none) { frames := 3, cells := 0, slots := 0, locals := 69 } (va_Pc [.ref (b + o0), .ref (b + o1), .ref (b + o2)] (Pr l E (LC E b) σ)) (Qz E (LC E b) none r) 0 0 (La (LC E b)) := by
  refine ct_of (by decide) (Nat.le_of_ble_eq_true rfl) ?_
  intro p e s m below meth c C hW hS ls hl
  have hx0 := C.1
  have hb := C.2.1
  have hl : lv_has ls 4 [(0, .ref (b + o0)), (1, .ref (b + o1)), (2, .ref (b + o2))] := hl
  unfold fX5_arrange at h
  refine lv_iconst (v := (0 : Int32)) hx0 hb dX5_arrange_0 (by decide) ?_
  refine lv_istore_n (lv' := [(3, .int (0 : Int32)), (0, .ref (b + o0)), (1, .ref (b + o1)), (2, .ref (b + o2))]) hx0 hb dX5_arrange_1 rfl hl (by decide) rfl (fun ls hl => ?_)
  obtain ⟨q2, h2, h⟩ := bnd h
  try dsimp only at h
  refine bX5_arrange_l2 C o0 o1 o2 ho0 ho1 ho2 (q := q2) ?_ FU (0 : Int32) σ h2 _ _ _ hW hS (lv_sub hl [1, 2, 3, 0] rfl)
  intro H locs ls hW hS hl
  cases h
  exact w_vret C hW hS dX5_arrange_27
