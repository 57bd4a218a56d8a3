/-! PageArchive$State, by program out of the bytecode -/
def fX7_clear (o0 : Nat) (σ : Mem) : Option Mem :=
  (fX10_clear (o0 + 1) σ).bind fun v4 => (fX1_clear (o0 + 12) v4).bind fun v11 => (fX5_clear (o0 + 21) v11).bind fun v18 => (fX9_reset (o0 + 28) v18).bind fun v25 => some v25
set_option maxRecDepth 100000 in
set_option maxHeartbeats 4000000 in
theorem mX7_clear {l : Launch} {E : Ev} {b : Nat} (o0 : Nat) (ho0 : kd o0 = 7) (σ : Mem) (r : Mem) (h : fX7_clear o0 σ = some r) : Met l yX7_clear (tw yX7_clear cX7_clear 1 none) { frames := 1, cells := 0, slots := 0, locals := 20 } (va_Pc [.ref (b + o0)] (Pr l E (LC E b) σ)) (Qz E (LC E b) none r) 0 0 (La (LC E b)) := by
  refine ct_of (by decide) (Nat.le_of_ble_eq_true rfl) ?_
  intro p e s m below meth c C hW hS ls hl
  have hx0 := C.1
  have hb := C.2.1
  have hl : lv_has ls 1 [(0, .ref (b + o0))] := hl
  unfold fX7_clear at h
  refine lv_aload_n hx0 hb dX7_clear_0 rfl (lv_at hl 0 rfl) ?_
  refine gtX7_0 (k := o0) C hW ho0 flX7_10 dX7_clear_1 ?_
  obtain ⟨v4, h4, h⟩ := bnd h
  try dsimp only at h
  refine w_callV (L := (LC E b)) (k := o0 + 1) (As := []) (rest := []) C hW hS (kdlt (chX7_0 ho0) (by decide)) (ccX10 (chX7_0 ho0)) kcX10 (mX10_clear (o0 + 1) (chX7_0 ho0) σ v4 h4) cwX10_clear cvX10_clear rfl mlX7_37 ⟨by decide, by decide⟩ rfl hl.1 (Nat.le_of_ble_eq_true rfl) ⟨by decide, by decide⟩ dX7_clear_4 rfl (fun H locs hW hS => ?_)
  refine lv_aload_n hx0 hb dX7_clear_7 rfl (lv_at hl 0 rfl) ?_
  refine gtX7_1 (k := o0) C hW ho0 flX7_19 dX7_clear_8 ?_
  obtain ⟨v11, h11, h⟩ := bnd h
  try dsimp only at h
  refine w_callV (L := (LC E b)) (k := o0 + 12) (As := []) (rest := []) C hW hS (kdlt (chX7_1 ho0) (by decide)) (ccX1 (chX7_1 ho0)) kcX1 (mX1_clear (o0 + 12) (chX7_1 ho0) v4 v11 h11) cwX1_clear cvX1_clear rfl mlX7_40 ⟨by decide, by decide⟩ rfl hl.1 (Nat.le_of_ble_eq_true rfl) ⟨by decide, by decide⟩ dX7_clear_11 rfl (fun H locs hW hS => ?_)
  refine lv_aload_n hx0 hb dX7_clear_14 rfl (lv_at hl 0 rfl) ?_
  refine gtX7_2 (k := o0) C hW ho0 flX7_26 dX7_clear_15 ?_
  obtain ⟨v18, h18, h⟩ := bnd h
  try dsimp only at h
  refine w_callV (L := (LC E b)) (k := o0 + 21) (As := []) (rest := []) C hW hS (kdlt (chX7_2 ho0) (by decide)) (ccX5 (chX7_2 ho0)) kcX5 (mX5_clear (o0 + 21) (chX7_2 ho0) v11 v18 h18) cwX5_clear cvX5_clear rfl mlX7_41 ⟨by decide, by decide⟩ rfl hl.1 (Nat.le_of_ble_eq_true rfl) ⟨by decide, by decide⟩ dX7_clear_18 rfl (fun H locs hW hS => ?_)
  refine lv_aload_n hx0 hb dX7_clear_21 rfl (lv_at hl 0 rfl) ?_
  refine gtX7_3 (k := o0) C hW ho0 flX7_33 dX7_clear_22 ?_
  obtain ⟨v25, h25, h⟩ := bnd h
  try dsimp only at h
  refine w_callV (L := (LC E b)) (k := o0 + 28) (As := []) (rest := []) C hW hS (kdlt (chX7_3 ho0) (by decide)) (ccX9 (chX7_3 ho0)) kcX9 (mX9_reset (o0 + 28) (chX7_3 ho0) v18 v25 h25) cwX9_reset cvX9_reset rfl mlX7_42 ⟨by decide, by decide⟩ rfl hl.1 (Nat.le_of_ble_eq_true rfl) ⟨by decide, by decide⟩ dX7_clear_25 rfl (fun H locs hW hS => ?_)
  cases h
  exact w_vret C hW hS dX7_clear_28
def fX7_copyFrom (o0 : Nat) (o1 : Nat) (σ : Mem) : Option Mem :=
  (fX10_copyFrom (o0 + 1) (o1 + 1) σ).bind fun v8 => (fX1_copyFrom (o0 + 12) (o1 + 12) v8).bind fun v19 => (fX5_copyFrom (o0 + 21) (o1 + 21) v19).bind fun v30 => (fX9_copyFrom (o0 + 28) (o1 + 28) v30).bind fun v41 => some v41
set_option maxRecDepth 100000 in
set_option maxHeartbeats 4000000 in
theorem mX7_copyFrom {l : Launch} {E : Ev} {b : Nat} (o0 : Nat) (o1 : Nat) (ho0 : kd o0 = 7) (ho1 : kd o1 = 7) (σ : Mem) (r : Mem) (h : fX7_copyFrom o0 o1 σ = some r) : Met l yX7_copyFrom (tw yX7_copyFrom cX7_copyFrom 2 none) { frames := 3, cells := 0, slots := 0, locals := 83 } (va_Pc [.ref (b + o0), .ref (b + o1)] (Pr l E (LC E b) σ)) (Qz E (LC E b) none r) 0 0 (La (LC E b)) := by
  refine ct_of (by decide) (Nat.le_of_ble_eq_true rfl) ?_
  intro p e s m below meth c C hW hS ls hl
  have hx0 := C.1
  have hb := C.2.1
  have hl : lv_has ls 2 [(0, .ref (b + o0)), (1, .ref (b + o1))] := hl
  unfold fX7_copyFrom at h
  refine lv_aload_n hx0 hb dX7_copyFrom_0 rfl (lv_at hl 0 rfl) ?_
  refine gtX7_0 (k := o0) C hW ho0 flX7_10 dX7_copyFrom_1 ?_
  refine lv_aload_n hx0 hb dX7_copyFrom_4 rfl (lv_at hl 1 rfl) ?_
  refine gtX7_0 (k := o1) C hW ho1 flX7_10 dX7_copyFrom_5 ?_
  obtain ⟨v8, h8, h⟩ := bnd h
  try dsimp only at h
  refine w_callV (L := (LC E b)) (k := o0 + 1) (As := [.ref (b + (o1 + 1))]) (rest := []) C hW hS (kdlt (chX7_0 ho0) (by decide)) (ccX10 (chX7_0 ho0)) kcX10 (mX10_copyFrom (o0 + 1) (o1 + 1) (chX7_0 ho0) (chX7_0 ho1) σ v8 h8) cwX10_copyFrom cvX10_copyFrom rfl mlX7_45 ⟨by decide, by decide⟩ rfl hl.1 (Nat.le_of_ble_eq_true rfl) ⟨by decide, by decide⟩ dX7_copyFrom_8 rfl (fun H locs hW hS => ?_)
  refine lv_aload_n hx0 hb dX7_copyFrom_11 rfl (lv_at hl 0 rfl) ?_
  refine gtX7_1 (k := o0) C hW ho0 flX7_19 dX7_copyFrom_12 ?_
  refine lv_aload_n hx0 hb dX7_copyFrom_15 rfl (lv_at hl 1 rfl) ?_
  refine gtX7_1 (k := o1) C hW ho1 flX7_19 dX7_copyFrom_16 ?_
  obtain ⟨v19, h19, h⟩ := bnd h
  try dsimp only at h
  refine w_callV (L := (LC E b)) (k := o0 + 12) (As := [.ref (b + (o1 + 12))]) (rest := []) C hW hS (kdlt (chX7_1 ho0) (by decide)) (ccX1 (chX7_1 ho0)) kcX1 (mX1_copyFrom (o0 + 12) (o1 + 12) (chX7_1 ho0) (chX7_1 ho1) v8 v19 h19) cwX1_copyFrom cvX1_copyFrom rfl mlX7_49 ⟨by decide, by decide⟩ rfl hl.1 (Nat.le_of_ble_eq_true rfl) ⟨by decide, by decide⟩ dX7_copyFrom_19 rfl (fun H locs hW hS => ?_)
  refine lv_aload_n hx0 hb dX7_copyFrom_22 rfl (lv_at hl 0 rfl) ?_
  refine gtX7_2 (k := o0) C hW ho0 flX7_26 dX7_copyFrom_23 ?_
  refine lv_aload_n hx0 hb dX7_copyFrom_26 rfl (lv_at hl 1 rfl) ?_
  refine gtX7_2 (k := o1) C hW ho1 flX7_26 dX7_copyFrom_27 ?_
  obtain ⟨v30, h30, h⟩ := bnd h
  try dsimp only at h
  refine w_callV (L := (LC E b)) (k := o0 + 21) (As := [.ref (b + (o1 + 21))]) (rest := []) C hW hS (kdlt (chX7_2 ho0) (by decide)) (ccX5 (chX7_2 ho0)) kcX5 (mX5_copyFrom (o0 + 21) (o1 + 21) (chX7_2 ho0) (chX7_2 ho1) v19 v30 h30) cwX5_copyFrom cvX5_copyFrom rfl mlX7_52 ⟨by decide, by decide⟩ rfl hl.1 (Nat.le_of_ble_eq_true rfl) ⟨by decide, by decide⟩ dX7_copyFrom_30 rfl (fun H locs hW hS => ?_)
  refine lv_aload_n hx0 hb dX7_copyFrom_33 rfl (lv_at hl 0 rfl) ?_
  refine gtX7_3 (k := o0) C hW ho0 flX7_33 dX7_copyFrom_34 ?_
  refine lv_aload_n hx0 hb dX7_copyFrom_37 rfl (lv_at hl 1 rfl) ?_
  refine gtX7_3 (k := o1) C hW ho1 flX7_33 dX7_copyFrom_38 ?_
  obtain ⟨v41, h41, h⟩ := bnd h
  try dsimp only at h
  refine w_callV (L := (LC E b)) (k := o0 + 28) (As := [.ref (b + (o1 + 28))]) (rest := []) C hW hS (kdlt (chX7_3 ho0) (by decide)) (ccX9 (chX7_3 ho0)) kcX9 (mX9_copyFrom (o0 + 28) (o1 + 28) (chX7_3 ho0) (chX7_3 ho1) v30 v41 h41) cwX9_copyFrom cvX9_copyFrom rfl mlX7_55 ⟨by decide, by decide⟩ rfl hl.1 (Nat.le_of_ble_eq_true rfl) ⟨by decide, by decide⟩ dX7_copyFrom_41 rfl (fun H locs hW hS => ?_)
  cases h
  exact w_vret C hW hS dX7_copyFrom_44
