/-! PageArchive, by program out of the bytecode -/
def fX11_requireScan (o0 : Nat) (x1 : Int32) (σ : Mem) : Option Rx :=
  if x1 < 0 then (some (.inl 2, σ)) else ((fX5_size (o0 + 62) σ).bind fun v9 => if x1 < v9 then (some (.inr 0, σ)) else (some (.inl 2, σ)))
set_option maxRecDepth 100000 in
set_option maxHeartbeats 4000000 in
theorem mX11_requireScan {l : Launch} {E : Ev} {b : Nat} (o0 : Nat) (x1 : Int32) (ho0 : kd o0 = 11) (σ : Mem) (r : Rx) (h : fX11_requireScan o0 x1 σ = some r) : vx_Met l yX11_requireScan (tw yX11_requireScan cX11_requireScan 2 none) { frames := 6, cells := 1, slots := 6, locals := 90 } (va_Pc [.ref (b + o0), .int x1] (Pr l E (LC E b) σ)) (Qx E (LC E b) rvV r) (Xx E (LC E b) r) 1 6 (La (LC E b)) := by
  refine cx_of (by decide) (Nat.le_of_ble_eq_true rfl) ?_
  intro p e s m below meth c C hT hW hS ls hl
  have hx0 := C.1
  have hb := C.2.1
  have hl : lv_has ls 2 [(0, .ref (b + o0)), (1, .int x1)] := hl
  unfold fX11_requireScan at h
  refine lv_iload_n hx0 hb dX11_requireScan_0 rfl (lv_at hl 1 rfl) ?_
  refine lv_if_lt (tgt := 15) hx0 hb dX11_requireScan_1 (by decide) (fun c1 => ?_) (fun c1 => ?_)
  · rw [if_pos c1] at h
    cases h
    exact x_throwW (n := 2) (si := 39) C hT (by decide +kernel) xat2 xgd2 xcl2 xin2 rfl hW hS hl.1 ⟨by decide, Nat.le_of_ble_eq_true rfl⟩ ⟨by decide, by decide⟩ (by decide) (by decide) dX11_requireScan_15 dX11_requireScan_18 dX11_requireScan_19 dX11_requireScan_22 dX11_requireScan_25
  · rw [if_neg c1] at h
    refine lv_iload_n hx0 hb dX11_requireScan_4 rfl (lv_at hl 1 rfl) ?_
    refine lv_aload_n hx0 hb dX11_requireScan_5 rfl (lv_at hl 0 rfl) ?_
    refine gtX11_8 (k := o0) C hW ho0 flX11_58 dX11_requireScan_6 ?_
    obtain ⟨v9, h9, h⟩ := bnd h
    try dsimp only at h
    refine w_callV (L := (LC E b)) (k := o0 + 62) (As := []) (rest := [.int x1]) C hW hS (kdlt (chX11_8 ho0) (by decide)) (ccX5 (chX11_8 ho0)) kcX5 (mX5_size (o0 + 62) (chX11_8 ho0) σ v9 h9) cwX5_size cvX5_size rfl mlX11_261 ⟨by decide, by decide⟩ rfl hl.1 (Nat.le_of_ble_eq_true rfl) ⟨by decide, by decide⟩ dX11_requireScan_9 rfl (fun H locs hW hS => ?_)
    refine lv_icmp_lt (tgt := 26) hx0 hb dX11_requireScan_12 (by decide) (fun c12 => ?_) (fun c12 => ?_)
    · rw [if_pos c12] at h
      cases h
      exact x_vret C hW hS (by decide) (by decide) dX11_requireScan_26
    · rw [if_neg c12] at h
      cases h
      exact x_throwW (n := 2) (si := 39) C hT (by decide +kernel) xat2 xgd2 xcl2 xin2 rfl hW hS hl.1 ⟨by decide, Nat.le_of_ble_eq_true rfl⟩ ⟨by decide, by decide⟩ (by decide) (by decide) dX11_requireScan_15 dX11_requireScan_18 dX11_requireScan_19 dX11_requireScan_22 dX11_requireScan_25
def fX11_removeScan (o0 : Nat) (x1 : Int32) (σ : Mem) : Option Rx :=
  (fX11_requireScan o0 x1 σ).bind fun v2 => match v2.1 with | .inl n2 => some (.inl n2, v2.2) | .inr a2 => (fX5_kindOf (o0 + 62) x1 v2.2).bind fun v10 => (fX0_keep (o0 + 79) (o0 + 41) v2.2).bind fun v22 => (fX5_dropAt (o0 + 62) x1 v22).bind fun v30 => some (.inr v10, v30)
set_option maxRecDepth 100000 in
set_option maxHeartbeats 4000000 in
theorem mX11_removeScan {l : Launch} {E : Ev} {b : Nat} (o0 : Nat) (x1 : Int32) (ho0 : kd o0 = 11) (σ : Mem) (r : Rx) (h : fX11_removeScan o0 x1 σ = some r) : vx_Met l yX11_removeScan (tw yX11_removeScan cX11_removeScan 3 (some .int)) { frames := 7, cells := 1, slots := 6, locals := 126 } (va_Pc [.ref (b + o0), .int x1] (Pr l E (LC E b) σ)) (Qx E (LC E b) rvI r) (Xx E (LC E b) r) 1 6 (La (LC E b)) := by
  refine cx_of (by decide) (Nat.le_of_ble_eq_true rfl) ?_
  intro p e s m below meth c C hT hW hS ls hl
  have hx0 := C.1
  have hb := C.2.1
  have hl : lv_has ls 3 [(0, .ref (b + o0)), (1, .int x1)] := hl
  unfold fX11_removeScan at h
  refine lv_aload_n hx0 hb dX11_removeScan_0 rfl (lv_at hl 0 rfl) ?_
  refine lv_iload_n hx0 hb dX11_removeScan_1 rfl (lv_at hl 1 rfl) ?_
  obtain ⟨v2, h2, h⟩ := bnd h
  try dsimp only at h
  refine x_callV (L := (LC E b)) (k := o0) (As := [.int x1]) (rest := []) C hW hS (kdlt ho0 (by decide)) (ccX11 ho0) kcX11 (mX11_requireScan o0 x1 ho0 σ v2 h2) cwX11_requireScan cvX11_requireScan rfl mlX11_262 ⟨by decide, by decide⟩ rfl hl.1 (Nat.le_of_ble_eq_true rfl) ⟨by decide, by decide⟩ dX11_removeScan_2 rfl (fun n2 e2 H locs q ce hW hS hq hv hc => by rw [e2] at h; (try dsimp only at h); cases h; exact x_out C hT hW hS hq hv hc (by decide) (by decide)) (fun a2 e2 H locs hW hS => ?_)
  rw [e2] at h
  try dsimp only at h
  refine lv_aload_n hx0 hb dX11_removeScan_5 rfl (lv_at hl 0 rfl) ?_
  refine gtX11_8 (k := o0) C hW ho0 flX11_58 dX11_removeScan_6 ?_
  refine lv_iload_n hx0 hb dX11_removeScan_9 rfl (lv_at hl 1 rfl) ?_
  obtain ⟨v10, h10, h⟩ := bnd h
  try dsimp only at h
  refine w_callV (L := (LC E b)) (k := o0 + 62) (As := [.int x1]) (rest := []) C hW hS (kdlt (chX11_8 ho0) (by decide)) (ccX5 (chX11_8 ho0)) kcX5 (mX5_kindOf (o0 + 62) x1 (chX11_8 ho0) v2.2 v10 h10) cwX5_kindOf cvX5_kindOf rfl mlX11_265 ⟨by decide, by decide⟩ rfl hl.1 (Nat.le_of_ble_eq_true rfl) ⟨by decide, by decide⟩ dX11_removeScan_10 rfl (fun H locs hW hS => ?_)
  refine lv_istore_n (lv' := [(2, .int v10), (0, .ref (b + o0)), (1, .int x1)]) hx0 hb dX11_removeScan_13 rfl hl (by decide) rfl (fun ls hl => ?_)
  refine lv_aload_n hx0 hb dX11_removeScan_14 rfl (lv_at hl 1 rfl) ?_
  refine gtX11_11 (k := o0) C hW ho0 flX11_73 dX11_removeScan_15 ?_
  refine lv_aload_n hx0 hb dX11_removeScan_18 rfl (lv_at hl 1 rfl) ?_
  refine gtX11_5 (k := o0) C hW ho0 flX11_40 dX11_removeScan_19 ?_
  obtain ⟨v22, h22, h⟩ := bnd h
  try dsimp only at h
  refine w_callV (L := (LC E b)) (k := o0 + 79) (As := [.ref (b + (o0 + 41))]) (rest := []) C hW hS (kdlt (chX11_11 ho0) (by decide)) (ccX0 (chX11_11 ho0)) kcX0 (mX0_keep (o0 + 79) (o0 + 41) (chX11_11 ho0) (chX11_5 ho0) v2.2 v22 h22) cwX0_keep cvX0_keep rfl mlX11_163 ⟨by decide, by decide⟩ rfl hl.1 (Nat.le_of_ble_eq_true rfl) ⟨by decide, by decide⟩ dX11_removeScan_22 rfl (fun H locs hW hS => ?_)
  refine lv_aload_n hx0 hb dX11_removeScan_25 rfl (lv_at hl 1 rfl) ?_
  refine gtX11_8 (k := o0) C hW ho0 flX11_58 dX11_removeScan_26 ?_
  refine lv_iload_n hx0 hb dX11_removeScan_29 rfl (lv_at hl 2 rfl) ?_
  obtain ⟨v30, h30, h⟩ := bnd h
  try dsimp only at h
  refine w_callV (L := (LC E b)) (k := o0 + 62) (As := [.int x1]) (rest := []) C hW hS (kdlt (chX11_8 ho0) (by decide)) (ccX5 (chX11_8 ho0)) kcX5 (mX5_dropAt (o0 + 62) x1 (chX11_8 ho0) v22 v30 h30) cwX5_dropAt cvX5_dropAt rfl mlX11_268 ⟨by decide, by decide⟩ rfl hl.1 (Nat.le_of_ble_eq_true rfl) ⟨by decide, by decide⟩ dX11_removeScan_30 rfl (fun H locs hW hS => ?_)
  refine lv_iload_n hx0 hb dX11_removeScan_33 rfl (lv_at hl 0 rfl) ?_
  cases h
  exact x_iret C hW hS (by decide) (by decide) dX11_removeScan_34
def fX11_followScans (o0 : Nat) (σ : Mem) : Option Mem :=
  (fX2_follow (o0 + 360) (o0 + 42) σ).bind fun v8 => (fX4_follow (o0 + 373) (o0 + 62) (o0 + 360) v8).bind fun v23 => some v23
set_option maxRecDepth 100000 in
set_option maxHeartbeats 4000000 in
theorem mX11_followScans {l : Launch} {E : Ev} {b : Nat} (o0 : Nat) (ho0 : kd o0 = 11) (σ : Mem) (r : Mem) (h : fX11_followScans o0 σ = some r) : Met l yX11_followScans (tw yX11_followScans cX11_followScans 1 none) { frames := 4, cells := 0, slots := 0, locals := 93 } (va_Pc [.ref (b + o0)] (Pr l E (LC E b) σ)) (Qz E (LC E b) none r) 0 0 (La (LC E b)) := by
  refine ct_of (by decide) (Nat.le_of_ble_eq_true rfl) ?_
  intro p e s m below meth c C hW hS ls hl
  have hx0 := C.1
  have hb := C.2.1
  have hl : lv_has ls 1 [(0, .ref (b + o0))] := hl
  unfold fX11_followScans at h
  refine lv_aload_n hx0 hb dX11_followScans_0 rfl (lv_at hl 0 rfl) ?_
  refine gtX11_14 (k := o0) C hW ho0 flX11_87 dX11_followScans_1 ?_
  refine lv_aload_n hx0 hb dX11_followScans_4 rfl (lv_at hl 0 rfl) ?_
  refine gtX11_6 (k := o0) C hW ho0 flX11_48 dX11_followScans_5 ?_
  obtain ⟨v8, h8, h⟩ := bnd h
  try dsimp only at h
  refine w_callV (L := (LC E b)) (k := o0 + 360) (As := [.ref (b + (o0 + 42))]) (rest := []) C hW hS (kdlt (chX11_14 ho0) (by decide)) (ccX2 (chX11_14 ho0)) kcX2 (mX2_follow (o0 + 360) (o0 + 42) (chX11_14 ho0) (chX11_6 ho0) σ v8 h8) cwX2_follow cvX2_follow rfl mlX11_359 ⟨by decide, by decide⟩ rfl hl.1 (Nat.le_of_ble_eq_true rfl) ⟨by decide, by decide⟩ dX11_followScans_8 rfl (fun H locs hW hS => ?_)
  refine lv_aload_n hx0 hb dX11_followScans_11 rfl (lv_at hl 0 rfl) ?_
  refine gtX11_15 (k := o0) C hW ho0 flX11_94 dX11_followScans_12 ?_
  refine lv_aload_n hx0 hb dX11_followScans_15 rfl (lv_at hl 0 rfl) ?_
  refine gtX11_8 (k := o0) C hW ho0 flX11_58 dX11_followScans_16 ?_
  refine lv_aload_n hx0 hb dX11_followScans_19 rfl (lv_at hl 0 rfl) ?_
  refine gtX11_14 (k := o0) C hW ho0 flX11_87 dX11_followScans_20 ?_
  obtain ⟨v23, h23, h⟩ := bnd h
  try dsimp only at h
  refine w_callV (L := (LC E b)) (k := o0 + 373) (As := [.ref (b + (o0 + 62)), .ref (b + (o0 + 360))]) (rest := []) C hW hS (kdlt (chX11_15 ho0) (by decide)) (ccX4 (chX11_15 ho0)) kcX4 (mX4_follow (o0 + 373) (o0 + 62) (o0 + 360) (chX11_15 ho0) (chX11_8 ho0) (chX11_14 ho0) v8 v23 h23) cwX4_follow cvX4_follow rfl mlX11_443 ⟨by decide, by decide⟩ rfl hl.1 (Nat.le_of_ble_eq_true rfl) ⟨by decide, by decide⟩ dX11_followScans_23 rfl (fun H locs hW hS => ?_)
  cases h
  exact w_vret C hW hS dX11_followScans_26
def fX11_inversions (o0 : Nat) (σ : Mem) : Option (Int32 × Mem) :=
  (fX11_followScans o0 σ).bind fun v1 => (fX4_countInversions (o0 + 373) v1).bind fun v8 => some (v8, v1)
set_option maxRecDepth 100000 in
set_option maxHeartbeats 4000000 in
theorem mX11_inversions {l : Launch} {E : Ev} {b : Nat} (o0 : Nat) (ho0 : kd o0 = 11) (σ : Mem) (r : (Int32 × Mem)) (h : fX11_inversions o0 σ = some r) : Met l yX11_inversions (tw yX11_inversions cX11_inversions 1 (some .int)) { frames := 5, cells := 0, slots := 0, locals := 113 } (va_Pc [.ref (b + o0)] (Pr l E (LC E b) σ)) (Qz E (LC E b) (some (.int r.1)) r.2) 0 0 (La (LC E b)) := by
  refine ct_of (by decide) (Nat.le_of_ble_eq_true rfl) ?_
  intro p e s m below meth c C hW hS ls hl
  have hx0 := C.1
  have hb := C.2.1
  have hl : lv_has ls 1 [(0, .ref (b + o0))] := hl
  unfold fX11_inversions at h
  refine lv_aload_n hx0 hb dX11_inversions_0 rfl (lv_at hl 0 rfl) ?_
  obtain ⟨v1, h1, h⟩ := bnd h
  try dsimp only at h
  refine w_callV (L := (LC E b)) (k := o0) (As := []) (rest := []) C hW hS (kdlt ho0 (by decide)) (ccX11 ho0) kcX11 (mX11_followScans o0 ho0 σ v1 h1) cwX11_followScans cvX11_followScans rfl mlX11_278 ⟨by decide, by decide⟩ rfl hl.1 (Nat.le_of_ble_eq_true rfl) ⟨by decide, by decide⟩ dX11_inversions_1 rfl (fun H locs hW hS => ?_)
  refine lv_aload_n hx0 hb dX11_inversions_4 rfl (lv_at hl 0 rfl) ?_
  refine gtX11_15 (k := o0) C hW ho0 flX11_94 dX11_inversions_5 ?_
  obtain ⟨v8, h8, h⟩ := bnd h
  try dsimp only at h
  refine w_callV (L := (LC E b)) (k := o0 + 373) (As := []) (rest := []) C hW hS (kdlt (chX11_15 ho0) (by decide)) (ccX4 (chX11_15 ho0)) kcX4 (mX4_countInversions (o0 + 373) (chX11_15 ho0) v1 v8 h8) cwX4_countInversions cvX4_countInversions rfl mlX11_426 ⟨by decide, by decide⟩ rfl hl.1 (Nat.le_of_ble_eq_true rfl) ⟨by decide, by decide⟩ dX11_inversions_8 rfl (fun H locs hW hS => ?_)
  cases h
  exact w_iret C hW hS dX11_inversions_11
def fX11_moveScan (o0 : Nat) (x1 : Int32) (x2 : Int32) (σ : Mem) : Option Rx :=
  (fX11_requireScan o0 x1 σ).bind fun v2 => match v2.1 with | .inl n2 => some (.inl n2, v2.2) | .inr a2 => (fX11_requireScan o0 x2 v2.2).bind fun v7 => match v7.1 with | .inl n7 => some (.inl n7, v7.2) | .inr a7 => (fX0_keep (o0 + 79) (o0 + 41) v7.2).bind fun v18 => (fX5_shift (o0 + 62) x1 x2 v18).bind fun v27 => (fX11_inversions o0 v27).bind fun v31 => some (.inr v31.1, v31.2)
set_option maxRecDepth 100000 in
set_option maxHeartbeats 4000000 in
theorem mX11_moveScan {l : Launch} {E : Ev} {b : Nat} (o0 : Nat) (x1 : Int32) (x2 : Int32) (ho0 : kd o0 = 11) (σ : Mem) (r : Rx) (h : fX11_moveScan o0 x1 x2 σ = some r) : vx_Met l yX11_moveScan (tw yX11_moveScan cX11_moveScan 3 (some .int)) { frames := 7, cells := 2, slots := 12, locals := 133 } (va_Pc [.ref (b + o0), .int x1, .int x2] (Pr l E (LC E b) σ)) (Qx E (LC E b) rvI r) (Xx E (LC E b) r) 2 12 (La (LC E b)) := by
  refine cx_of (by decide) (Nat.le_of_ble_eq_true rfl) ?_
  intro p e s m below meth c C hT hW hS ls hl
  have hx0 := C.1
  have hb := C.2.1
  have hl : lv_has ls 3 [(0, .ref (b + o0)), (1, .int x1), (2, .int x2)] := hl
  unfold fX11_moveScan at h
  refine lv_aload_n hx0 hb dX11_moveScan_0 rfl (lv_at hl 0 rfl) ?_
  refine lv_iload_n hx0 hb dX11_moveScan_1 rfl (lv_at hl 1 rfl) ?_
  obtain ⟨v2, h2, h⟩ := bnd h
  try dsimp only at h
  refine x_callV (L := (LC E b)) (k := o0) (As := [.int x1]) (rest := []) C hW hS (kdlt ho0 (by decide)) (ccX11 ho0) kcX11 (mX11_requireScan o0 x1 ho0 σ v2 h2) cwX11_requireScan cvX11_requireScan rfl mlX11_262 ⟨by decide, by decide⟩ rfl hl.1 (Nat.le_of_ble_eq_true rfl) ⟨by decide, by decide⟩ dX11_moveScan_2 rfl (fun n2 e2 H locs q ce hW hS hq hv hc => by rw [e2] at h; (try dsimp only at h); cases h; exact x_out C hT hW hS hq hv hc (by decide) (by decide)) (fun a2 e2 H locs hW hS => ?_)
  rw [e2] at h
  try dsimp only at h
  refine lv_aload_n hx0 hb dX11_moveScan_5 rfl (lv_at hl 0 rfl) ?_
  refine lv_iload_n hx0 hb dX11_moveScan_6 rfl (lv_at hl 2 rfl) ?_
  obtain ⟨v7, h7, h⟩ := bnd h
  try dsimp only at h
  refine x_callV (L := (LC E b)) (k := o0) (As := [.int x2]) (rest := []) C hW hS (kdlt ho0 (by decide)) (ccX11 ho0) kcX11 (mX11_requireScan o0 x2 ho0 v2.2 v7 h7) cwX11_requireScan cvX11_requireScan rfl mlX11_262 ⟨by decide, by decide⟩ rfl hl.1 (Nat.le_of_ble_eq_true rfl) ⟨by decide, by decide⟩ dX11_moveScan_7 rfl (fun n7 e7 H locs q ce hW hS hq hv hc => by rw [e7] at h; (try dsimp only at h); cases h; exact x_out C hT hW hS hq hv hc (by decide) (by decide)) (fun a7 e7 H locs hW hS => ?_)
  rw [e7] at h
  try dsimp only at h
  refine lv_aload_n hx0 hb dX11_moveScan_10 rfl (lv_at hl 0 rfl) ?_
  refine gtX11_11 (k := o0) C hW ho0 flX11_73 dX11_moveScan_11 ?_
  refine lv_aload_n hx0 hb dX11_moveScan_14 rfl (lv_at hl 0 rfl) ?_
  refine gtX11_5 (k := o0) C hW ho0 flX11_40 dX11_moveScan_15 ?_
  obtain ⟨v18, h18, h⟩ := bnd h
  try dsimp only at h
  refine w_callV (L := (LC E b)) (k := o0 + 79) (As := [.ref (b + (o0 + 41))]) (rest := []) C hW hS (kdlt (chX11_11 ho0) (by decide)) (ccX0 (chX11_11 ho0)) kcX0 (mX0_keep (o0 + 79) (o0 + 41) (chX11_11 ho0) (chX11_5 ho0) v7.2 v18 h18) cwX0_keep cvX0_keep rfl mlX11_163 ⟨by decide, by decide⟩ rfl hl.1 (Nat.le_of_ble_eq_true rfl) ⟨by decide, by decide⟩ dX11_moveScan_18 rfl (fun H locs hW hS => ?_)
  refine lv_aload_n hx0 hb dX11_moveScan_21 rfl (lv_at hl 0 rfl) ?_
  refine gtX11_8 (k := o0) C hW ho0 flX11_58 dX11_moveScan_22 ?_
  refine lv_iload_n hx0 hb dX11_moveScan_25 rfl (lv_at hl 1 rfl) ?_
  refine lv_iload_n hx0 hb dX11_moveScan_26 rfl (lv_at hl 2 rfl) ?_
  obtain ⟨v27, h27, h⟩ := bnd h
  try dsimp only at h
  refine w_callV (L := (LC E b)) (k := o0 + 62) (As := [.int x1, .int x2]) (rest := []) C hW hS (kdlt (chX11_8 ho0) (by decide)) (ccX5 (chX11_8 ho0)) kcX5 (mX5_shift (o0 + 62) x1 x2 (chX11_8 ho0) v18 v27 h27) cwX5_shift cvX5_shift rfl mlX11_271 ⟨by decide, by decide⟩ rfl hl.1 (Nat.le_of_ble_eq_true rfl) ⟨by decide, by decide⟩ dX11_moveScan_27 rfl (fun H locs hW hS => ?_)
  refine lv_aload_n hx0 hb dX11_moveScan_30 rfl (lv_at hl 0 rfl) ?_
  obtain ⟨v31, h31, h⟩ := bnd h
  try dsimp only at h
  refine w_callV (L := (LC E b)) (k := o0) (As := []) (rest := []) C hW hS (kdlt ho0 (by decide)) (ccX11 ho0) kcX11 (mX11_inversions o0 ho0 v27 v31 h31) cwX11_inversions cvX11_inversions rfl mlX11_275 ⟨by decide, by decide⟩ rfl hl.1 (Nat.le_of_ble_eq_true rfl) ⟨by decide, by decide⟩ dX11_moveScan_31 rfl (fun H locs hW hS => ?_)
  cases h
  exact x_iret C hW hS (by decide) (by decide) dX11_moveScan_34
def fX11_sortScans (o0 : Nat) (σ : Mem) : Option (Int32 × Mem) :=
  (fX11_followScans o0 σ).bind fun v1 => (fX4_rankScans (o0 + 373) v1).bind fun v8 => (fX0_keep (o0 + 79) (o0 + 41) v8.2).bind fun v20 => (fX5_copyFrom (o0 + 72) (o0 + 62) v20).bind fun v31 => (fX5_arrange (o0 + 62) (o0 + 72) ((o0 + 373) + 9) v31).bind fun v49 => some (v8.1, v49)
set_option maxRecDepth 100000 in
set_option maxHeartbeats 4000000 in
theorem mX11_sortScans {l : Launch} {E : Ev} {b : Nat} (o0 : Nat) (ho0 : kd o0 = 11) (σ : Mem) (r : (Int32 × Mem)) (h : fX11_sortScans o0 σ = some r) : Met l yX11_sortScans (tw yX11_sortScans cX11_sortScans 2 (some .int)) { frames := 5, cells := 0, slots := 0, locals := 126 } (va_Pc [.ref (b + o0)] (Pr l E (LC E b) σ)) (Qz E (LC E b) (some (.int r.1)) r.2) 0 0 (La (LC E b)) := by
  refine ct_of (by decide) (Nat.le_of_ble_eq_true rfl) ?_
  intro p e s m below meth c C hW hS ls hl
  have hx0 := C.1
  have hb := C.2.1
  have hl : lv_has ls 2 [(0, .ref (b + o0))] := hl
  unfold fX11_sortScans at h
  refine lv_aload_n hx0 hb dX11_sortScans_0 rfl (lv_at hl 0 rfl) ?_
  obtain ⟨v1, h1, h⟩ := bnd h
  try dsimp only at h
  refine w_callV (L := (LC E b)) (k := o0) (As := []) (rest := []) C hW hS (kdlt ho0 (by decide)) (ccX11 ho0) kcX11 (mX11_followScans o0 ho0 σ v1 h1) cwX11_followScans cvX11_followScans rfl mlX11_278 ⟨by decide, by decide⟩ rfl hl.1 (Nat.le_of_ble_eq_true rfl) ⟨by decide, by decide⟩ dX11_sortScans_1 rfl (fun H locs hW hS => ?_)
  refine lv_aload_n hx0 hb dX11_sortScans_4 rfl (lv_at hl 0 rfl) ?_
  refine gtX11_15 (k := o0) C hW ho0 flX11_94 dX11_sortScans_5 ?_
  obtain ⟨v8, h8, h⟩ := bnd h
  try dsimp only at h
  refine w_callV (L := (LC E b)) (k := o0 + 373) (As := []) (rest := []) C hW hS (kdlt (chX11_15 ho0) (by decide)) (ccX4 (chX11_15 ho0)) kcX4 (mX4_rankScans (o0 + 373) (chX11_15 ho0) v1 v8 h8) cwX4_rankScans cvX4_rankScans rfl mlX11_281 ⟨by decide, by decide⟩ rfl hl.1 (Nat.le_of_ble_eq_true rfl) ⟨by decide, by decide⟩ dX11_sortScans_8 rfl (fun H locs hW hS => ?_)
  refine lv_istore_n (lv' := [(1, .int v8.1), (0, .ref (b + o0))]) hx0 hb dX11_sortScans_11 rfl hl (by decide) rfl (fun ls hl => ?_)
  refine lv_aload_n hx0 hb dX11_sortScans_12 rfl (lv_at hl 1 rfl) ?_
  refine gtX11_11 (k := o0) C hW ho0 flX11_73 dX11_sortScans_13 ?_
  refine lv_aload_n hx0 hb dX11_sortScans_16 rfl (lv_at hl 1 rfl) ?_
  refine gtX11_5 (k := o0) C hW ho0 flX11_40 dX11_sortScans_17 ?_
  obtain ⟨v20, h20, h⟩ := bnd h
  try dsimp only at h
  refine w_callV (L := (LC E b)) (k := o0 + 79) (As := [.ref (b + (o0 + 41))]) (rest := []) C hW hS (kdlt (chX11_11 ho0) (by decide)) (ccX0 (chX11_11 ho0)) kcX0 (mX0_keep (o0 + 79) (o0 + 41) (chX11_11 ho0) (chX11_5 ho0) v8.2 v20 h20) cwX0_keep cvX0_keep rfl mlX11_163 ⟨by decide, by decide⟩ rfl hl.1 (Nat.le_of_ble_eq_true rfl) ⟨by decide, by decide⟩ dX11_sortScans_20 rfl (fun H locs hW hS => ?_)
  refine lv_aload_n hx0 hb dX11_sortScans_23 rfl (lv_at hl 1 rfl) ?_
  refine gtX11_10 (k := o0) C hW ho0 flX11_67 dX11_sortScans_24 ?_
  refine lv_aload_n hx0 hb dX11_sortScans_27 rfl (lv_at hl 1 rfl) ?_
  refine gtX11_8 (k := o0) C hW ho0 flX11_58 dX11_sortScans_28 ?_
  obtain ⟨v31, h31, h⟩ := bnd h
  try dsimp only at h
  refine w_callV (L := (LC E b)) (k := o0 + 72) (As := [.ref (b + (o0 + 62))]) (rest := []) C hW hS (kdlt (chX11_10 ho0) (by decide)) (ccX5 (chX11_10 ho0)) kcX5 (mX5_copyFrom (o0 + 72) (o0 + 62) (chX11_10 ho0) (chX11_8 ho0) v20 v31 h31) cwX5_copyFrom cvX5_copyFrom rfl mlX11_284 ⟨by decide, by decide⟩ rfl hl.1 (Nat.le_of_ble_eq_true rfl) ⟨by decide, by decide⟩ dX11_sortScans_31 rfl (fun H locs hW hS => ?_)
  refine lv_aload_n hx0 hb dX11_sortScans_34 rfl (lv_at hl 1 rfl) ?_
  refine gtX11_8 (k := o0) C hW ho0 flX11_58 dX11_sortScans_35 ?_
  refine lv_aload_n hx0 hb dX11_sortScans_38 rfl (lv_at hl 1 rfl) ?_
  refine gtX11_10 (k := o0) C hW ho0 flX11_67 dX11_sortScans_39 ?_
  refine lv_aload_n hx0 hb dX11_sortScans_42 rfl (lv_at hl 1 rfl) ?_
  refine gtX11_15 (k := o0) C hW ho0 flX11_94 dX11_sortScans_43 ?_
  refine gtX4_4 (k := o0 + 373) C hW (chX11_15 ho0) flX11_287 dX11_sortScans_46 ?_
  obtain ⟨v49, h49, h⟩ := bnd h
  try dsimp only at h
  refine w_callV (L := (LC E b)) (k := o0 + 62) (As := [.ref (b + (o0 + 72)), .ref (b + ((o0 + 373) + 9))]) (rest := []) C hW hS (kdlt (chX11_8 ho0) (by decide)) (ccX5 (chX11_8 ho0)) kcX5 (mX5_arrange (o0 + 62) (o0 + 72) ((o0 + 373) + 9) (chX11_8 ho0) (chX11_10 ho0) (chX4_4 (chX11_15 ho0)) v31 v49 h49) cwX5_arrange cvX5_arrange rfl mlX11_291 ⟨by decide, by decide⟩ rfl hl.1 (Nat.le_of_ble_eq_true rfl) ⟨by decide, by decide⟩ dX11_sortScans_49 rfl (fun H locs hW hS => ?_)
  refine lv_iload_n hx0 hb dX11_sortScans_52 rfl (lv_at hl 0 rfl) ?_
  cases h
  exact w_iret C hW hS dX11_sortScans_53
def fX11_turn (o0 : Nat) (x1 : Int32) (σ : Mem) : Option Rx :=
  if x1 = 0 then (some (.inl 1, σ)) else ((fX9_current (o0 + 69) σ).bind fun v19 => if (lg_cmp (v19.toInt64 + x1.toInt64) (0 : Int64)) < 0 then (some (.inl 0, σ)) else ((fX10_countOpenings (o0 + 42) σ).bind fun v38 => if (lg_cmp (v19.toInt64 + x1.toInt64) v38.toInt64) < 0 then ((fX0_keep (o0 + 79) (o0 + 41) σ).bind fun v65 => (fX9_leaveFor (o0 + 69) ((v19.toInt64 + x1.toInt64).toInt32) v65).bind fun v74 => (fX9_current (o0 + 69) v74).bind fun v81 => some (.inr v81, v74)) else (some (.inl 0, σ))))
set_option maxRecDepth 100000 in
set_option maxHeartbeats 4000000 in
theorem mX11_turn {l : Launch} {E : Ev} {b : Nat} (o0 : Nat) (x1 : Int32) (ho0 : kd o0 = 11) (σ : Mem) (r : Rx) (h : fX11_turn o0 x1 σ = some r) : vx_Met l yX11_turn (tw yX11_turn cX11_turn 4 (some .int)) { frames := 6, cells := 1, slots := 6, locals := 126 } (va_Pc [.ref (b + o0), .int x1] (Pr l E (LC E b) σ)) (Qx E (LC E b) rvI r) (Xx E (LC E b) r) 1 6 (La (LC E b)) := by
  refine cx_of (by decide) (Nat.le_of_ble_eq_true rfl) ?_
  intro p e s m below meth c C hT hW hS ls hl
  have hx0 := C.1
  have hb := C.2.1
  have hl : lv_has ls 4 [(0, .ref (b + o0)), (1, .int x1)] := hl
  unfold fX11_turn at h
  refine lv_iload_n hx0 hb dX11_turn_0 rfl (lv_at hl 1 rfl) ?_
  refine lv_if_ne (tgt := 15) hx0 hb dX11_turn_1 (by decide) (fun c1 => ?_) (fun c1 => ?_)
  · rw [if_neg c1] at h
    refine lv_aload_n hx0 hb dX11_turn_15 rfl (lv_at hl 0 rfl) ?_
    refine gtX11_9 (k := o0) C hW ho0 flX11_63 dX11_turn_16 ?_
    obtain ⟨v19, h19, h⟩ := bnd h
    try dsimp only at h
    refine w_callV (L := (LC E b)) (k := o0 + 69) (As := []) (rest := []) C hW hS (kdlt (chX11_9 ho0) (by decide)) (ccX9 (chX11_9 ho0)) kcX9 (mX9_current (o0 + 69) (chX11_9 ho0) σ v19 h19) cwX9_current cvX9_current rfl mlX11_297 ⟨by decide, by decide⟩ rfl hl.1 (Nat.le_of_ble_eq_true rfl) ⟨by decide, by decide⟩ dX11_turn_19 rfl (fun H locs hW hS => ?_)
    refine lv_i2l hx0 hb dX11_turn_22 rfl ?_
    refine lv_iload_n hx0 hb dX11_turn_23 rfl (lv_at hl 1 rfl) ?_
    refine lv_i2l hx0 hb dX11_turn_24 rfl ?_
    refine lv_ladd hx0 hb dX11_turn_25 ?_
    refine lv_lstore_n (lv' := [(2, .long (v19.toInt64 + x1.toInt64)), (0, .ref (b + o0)), (1, .int x1)]) hx0 hb dX11_turn_26 rfl hl (by decide) rfl (fun ls hl => ?_)
    refine lv_lload_n hx0 hb dX11_turn_27 rfl (lv_at hl 0 rfl) ?_
    refine lv_lconst (v := (0 : Int64)) hx0 hb dX11_turn_28 (by decide) ?_
    refine W.lcmp hx0 hb dX11_turn_29 ?_
    refine lv_if_lt (tgt := 46) hx0 hb dX11_turn_30 (by decide) (fun c30 => ?_) (fun c30 => ?_)
    · rw [if_pos c30] at h
      cases h
      exact x_throwW (n := 0) (si := 36) C hT (by decide +kernel) xat0 xgd0 xcl0 xin0 rfl hW hS hl.1 ⟨by decide, Nat.le_of_ble_eq_true rfl⟩ ⟨by decide, by decide⟩ (by decide) (by decide) dX11_turn_46 dX11_turn_49 dX11_turn_50 dX11_turn_53 dX11_turn_56
    · rw [if_neg c30] at h
      refine lv_lload_n hx0 hb dX11_turn_33 rfl (lv_at hl 0 rfl) ?_
      refine lv_aload_n hx0 hb dX11_turn_34 rfl (lv_at hl 1 rfl) ?_
      refine gtX11_6 (k := o0) C hW ho0 flX11_48 dX11_turn_35 ?_
      obtain ⟨v38, h38, h⟩ := bnd h
      try dsimp only at h
      refine w_callV (L := (LC E b)) (k := o0 + 42) (As := []) (rest := [.long (v19.toInt64 + x1.toInt64)]) C hW hS (kdlt (chX11_6 ho0) (by decide)) (ccX10 (chX11_6 ho0)) kcX10 (mX10_countOpenings (o0 + 42) (chX11_6 ho0) σ v38 h38) cwX10_countOpenings cvX10_countOpenings rfl mlX11_300 ⟨by decide, by decide⟩ rfl hl.1 (Nat.le_of_ble_eq_true rfl) ⟨by decide, by decide⟩ dX11_turn_38 rfl (fun H locs hW hS => ?_)
      refine lv_i2l hx0 hb dX11_turn_41 rfl ?_
      refine W.lcmp hx0 hb dX11_turn_42 ?_
      refine lv_if_lt (tgt := 57) hx0 hb dX11_turn_43 (by decide) (fun c43 => ?_) (fun c43 => ?_)
      · rw [if_pos c43] at h
        refine lv_aload_n hx0 hb dX11_turn_57 rfl (lv_at hl 1 rfl) ?_
        refine gtX11_11 (k := o0) C hW ho0 flX11_73 dX11_turn_58 ?_
        refine lv_aload_n hx0 hb dX11_turn_61 rfl (lv_at hl 1 rfl) ?_
        refine gtX11_5 (k := o0) C hW ho0 flX11_40 dX11_turn_62 ?_
        obtain ⟨v65, h65, h⟩ := bnd h
        try dsimp only at h
        refine w_callV (L := (LC E b)) (k := o0 + 79) (As := [.ref (b + (o0 + 41))]) (rest := []) C hW hS (kdlt (chX11_11 ho0) (by decide)) (ccX0 (chX11_11 ho0)) kcX0 (mX0_keep (o0 + 79) (o0 + 41) (chX11_11 ho0) (chX11_5 ho0) σ v65 h65) cwX0_keep cvX0_keep rfl mlX11_163 ⟨by decide, by decide⟩ rfl hl.1 (Nat.le_of_ble_eq_true rfl) ⟨by decide, by decide⟩ dX11_turn_65 rfl (fun H locs hW hS => ?_)
        refine lv_aload_n hx0 hb dX11_turn_68 rfl (lv_at hl 1 rfl) ?_
        refine gtX11_9 (k := o0) C hW ho0 flX11_63 dX11_turn_69 ?_
        refine lv_lload_n hx0 hb dX11_turn_72 rfl (lv_at hl 0 rfl) ?_
        refine lv_l2i hx0 hb dX11_turn_73 rfl ?_
        obtain ⟨v74, h74, h⟩ := bnd h
        try dsimp only at h
        refine w_callV (L := (LC E b)) (k := o0 + 69) (As := [.int ((v19.toInt64 + x1.toInt64).toInt32)]) (rest := []) C hW hS (kdlt (chX11_9 ho0) (by decide)) (ccX9 (chX11_9 ho0)) kcX9 (mX9_leaveFor (o0 + 69) ((v19.toInt64 + x1.toInt64).toInt32) (chX11_9 ho0) v65 v74 h74) cwX9_leaveFor cvX9_leaveFor rfl mlX11_305 ⟨by decide, by decide⟩ rfl hl.1 (Nat.le_of_ble_eq_true rfl) ⟨by decide, by decide⟩ dX11_turn_74 rfl (fun H locs hW hS => ?_)
        refine lv_aload_n hx0 hb dX11_turn_77 rfl (lv_at hl 1 rfl) ?_
        refine gtX11_9 (k := o0) C hW ho0 flX11_63 dX11_turn_78 ?_
        obtain ⟨v81, h81, h⟩ := bnd h
        try dsimp only at h
        refine w_callV (L := (LC E b)) (k := o0 + 69) (As := []) (rest := []) C hW hS (kdlt (chX11_9 ho0) (by decide)) (ccX9 (chX11_9 ho0)) kcX9 (mX9_current (o0 + 69) (chX11_9 ho0) v74 v81 h81) cwX9_current cvX9_current rfl mlX11_297 ⟨by decide, by decide⟩ rfl hl.1 (Nat.le_of_ble_eq_true rfl) ⟨by decide, by decide⟩ dX11_turn_81 rfl (fun H locs hW hS => ?_)
        cases h
        exact x_iret C hW hS (by decide) (by decide) dX11_turn_84
      · rw [if_neg c43] at h
        cases h
        exact x_throwW (n := 0) (si := 36) C hT (by decide +kernel) xat0 xgd0 xcl0 xin0 rfl hW hS hl.1 ⟨by decide, Nat.le_of_ble_eq_true rfl⟩ ⟨by decide, by decide⟩ (by decide) (by decide) dX11_turn_46 dX11_turn_49 dX11_turn_50 dX11_turn_53 dX11_turn_56
  · rw [if_pos c1] at h
    cases h
    exact x_throwW (n := 1) (si := 40) C hT (by decide +kernel) xat1 xgd1 xcl1 xin1 rfl hW hS hl.1 ⟨by decide, Nat.le_of_ble_eq_true rfl⟩ ⟨by decide, by decide⟩ (by decide) (by decide) dX11_turn_4 dX11_turn_7 dX11_turn_8 dX11_turn_11 dX11_turn_14
def fX11_requirePlace (o0 : Nat) (x1 : Int32) (σ : Mem) : Option Rx :=
  (fX2_follow (o0 + 360) (o0 + 42) σ).bind fun v8 => if x1 < 0 then (some (.inl 2, v8)) else ((fX2_size (o0 + 360) v8).bind fun v20 => if x1 < v20 then (some (.inr 0, v8)) else (some (.inl 2, v8)))
set_option maxRecDepth 100000 in
set_option maxHeartbeats 4000000 in
theorem mX11_requirePlace {l : Launch} {E : Ev} {b : Nat} (o0 : Nat) (x1 : Int32) (ho0 : kd o0 = 11) (σ : Mem) (r : Rx) (h : fX11_requirePlace o0 x1 σ = some r) : vx_Met l yX11_requirePlace (tw yX11_requirePlace cX11_requirePlace 2 none) { frames := 6, cells := 1, slots := 6, locals := 93 } (va_Pc [.ref (b + o0), .int x1] (Pr l E (LC E b) σ)) (Qx E (LC E b) rvV r) (Xx E (LC E b) r) 1 6 (La (LC E b)) := by
  refine cx_of (by decide) (Nat.le_of_ble_eq_true rfl) ?_
  intro p e s m below meth c C hT hW hS ls hl
  have hx0 := C.1
  have hb := C.2.1
  have hl : lv_has ls 2 [(0, .ref (b + o0)), (1, .int x1)] := hl
  unfold fX11_requirePlace at h
  refine lv_aload_n hx0 hb dX11_requirePlace_0 rfl (lv_at hl 0 rfl) ?_
  refine gtX11_14 (k := o0) C hW ho0 flX11_87 dX11_requirePlace_1 ?_
  refine lv_aload_n hx0 hb dX11_requirePlace_4 rfl (lv_at hl 0 rfl) ?_
  refine gtX11_6 (k := o0) C hW ho0 flX11_48 dX11_requirePlace_5 ?_
  obtain ⟨v8, h8, h⟩ := bnd h
  try dsimp only at h
  refine w_callV (L := (LC E b)) (k := o0 + 360) (As := [.ref (b + (o0 + 42))]) (rest := []) C hW hS (kdlt (chX11_14 ho0) (by decide)) (ccX2 (chX11_14 ho0)) kcX2 (mX2_follow (o0 + 360) (o0 + 42) (chX11_14 ho0) (chX11_6 ho0) σ v8 h8) cwX2_follow cvX2_follow rfl mlX11_359 ⟨by decide, by decide⟩ rfl hl.1 (Nat.le_of_ble_eq_true rfl) ⟨by decide, by decide⟩ dX11_requirePlace_8 rfl (fun H locs hW hS => ?_)
  refine lv_iload_n hx0 hb dX11_requirePlace_11 rfl (lv_at hl 1 rfl) ?_
  refine lv_if_lt (tgt := 26) hx0 hb dX11_requirePlace_12 (by decide) (fun c12 => ?_) (fun c12 => ?_)
  · rw [if_pos c12] at h
    cases h
    exact x_throwW (n := 2) (si := 41) C hT (by decide +kernel) xat2 xgd2 xcl2 xin2 rfl hW hS hl.1 ⟨by decide, Nat.le_of_ble_eq_true rfl⟩ ⟨by decide, by decide⟩ (by decide) (by decide) dX11_requirePlace_26 dX11_requirePlace_29 dX11_requirePlace_30 dX11_requirePlace_33 dX11_requirePlace_36
  · rw [if_neg c12] at h
    refine lv_iload_n hx0 hb dX11_requirePlace_15 rfl (lv_at hl 1 rfl) ?_
    refine lv_aload_n hx0 hb dX11_requirePlace_16 rfl (lv_at hl 0 rfl) ?_
    refine gtX11_14 (k := o0) C hW ho0 flX11_87 dX11_requirePlace_17 ?_
    obtain ⟨v20, h20, h⟩ := bnd h
    try dsimp only at h
    refine w_callV (L := (LC E b)) (k := o0 + 360) (As := []) (rest := [.int x1]) C hW hS (kdlt (chX11_14 ho0) (by decide)) (ccX2 (chX11_14 ho0)) kcX2 (mX2_size (o0 + 360) (chX11_14 ho0) v8 v20 h20) cwX2_size cvX2_size rfl mlX11_363 ⟨by decide, by decide⟩ rfl hl.1 (Nat.le_of_ble_eq_true rfl) ⟨by decide, by decide⟩ dX11_requirePlace_20 rfl (fun H locs hW hS => ?_)
    refine lv_icmp_lt (tgt := 37) hx0 hb dX11_requirePlace_23 (by decide) (fun c23 => ?_) (fun c23 => ?_)
    · rw [if_pos c23] at h
      cases h
      exact x_vret C hW hS (by decide) (by decide) dX11_requirePlace_37
    · rw [if_neg c23] at h
      cases h
      exact x_throwW (n := 2) (si := 41) C hT (by decide +kernel) xat2 xgd2 xcl2 xin2 rfl hW hS hl.1 ⟨by decide, Nat.le_of_ble_eq_true rfl⟩ ⟨by decide, by decide⟩ (by decide) (by decide) dX11_requirePlace_26 dX11_requirePlace_29 dX11_requirePlace_30 dX11_requirePlace_33 dX11_requirePlace_36
def fX11_openingWith (o0 : Nat) (x1 : Int32) (σ : Mem) : Option Int32 :=
  if x1 = (-1 : Int32) then (some (-1 : Int32)) else ((fX2_leafAt (o0 + 360) x1 σ).bind fun v16 => (fX10_presentBefore (o0 + 42) v16 σ).bind fun v19 => (fX2_leafSideAt (o0 + 360) x1 σ).bind fun v27 => some (v19 + v27))
set_option maxRecDepth 100000 in
set_option maxHeartbeats 4000000 in
theorem mX11_openingWith {l : Launch} {E : Ev} {b : Nat} (o0 : Nat) (x1 : Int32) (ho0 : kd o0 = 11) (σ : Mem) (r : Int32) (h : fX11_openingWith o0 x1 σ = some r) : Met l yX11_openingWith (tw yX11_openingWith cX11_openingWith 2 (some .int)) { frames := 3, cells := 0, slots := 0, locals := 65 } (va_Pc [.ref (b + o0), .int x1] (Pr l E (LC E b) σ)) (Qz E (LC E b) (some (.int r)) σ) 0 0 (La (LC E b)) := by
  refine ct_of (by decide) (Nat.le_of_ble_eq_true rfl) ?_
  intro p e s m below meth c C hW hS ls hl
  have hx0 := C.1
  have hb := C.2.1
  have hl : lv_has ls 2 [(0, .ref (b + o0)), (1, .int x1)] := hl
  unfold fX11_openingWith at h
  refine lv_iload_n hx0 hb dX11_openingWith_0 rfl (lv_at hl 1 rfl) ?_
  refine lv_iconst (v := (-1 : Int32)) hx0 hb dX11_openingWith_1 (by decide) ?_
  refine lv_icmp_ne (tgt := 7) hx0 hb dX11_openingWith_2 (by decide) (fun c2 => ?_) (fun c2 => ?_)
  · rw [if_neg c2] at h
    refine lv_aload_n hx0 hb dX11_openingWith_7 rfl (lv_at hl 0 rfl) ?_
    refine gtX11_6 (k := o0) C hW ho0 flX11_48 dX11_openingWith_8 ?_
    refine lv_aload_n hx0 hb dX11_openingWith_11 rfl (lv_at hl 0 rfl) ?_
    refine gtX11_14 (k := o0) C hW ho0 flX11_87 dX11_openingWith_12 ?_
    refine lv_iload_n hx0 hb dX11_openingWith_15 rfl (lv_at hl 1 rfl) ?_
    obtain ⟨v16, h16, h⟩ := bnd h
    try dsimp only at h
    refine w_callV (L := (LC E b)) (k := o0 + 360) (As := [.int x1]) (rest := [.ref (b + (o0 + 42))]) C hW hS (kdlt (chX11_14 ho0) (by decide)) (ccX2 (chX11_14 ho0)) kcX2 (mX2_leafAt (o0 + 360) x1 (chX11_14 ho0) σ v16 h16) cwX2_leafAt cvX2_leafAt rfl mlX11_364 ⟨by decide, by decide⟩ rfl hl.1 (Nat.le_of_ble_eq_true rfl) ⟨by decide, by decide⟩ dX11_openingWith_16 rfl (fun H locs hW hS => ?_)
    obtain ⟨v19, h19, h⟩ := bnd h
    try dsimp only at h
    refine w_callV (L := (LC E b)) (k := o0 + 42) (As := [.int v16]) (rest := []) C hW hS (kdlt (chX11_6 ho0) (by decide)) (ccX10 (chX11_6 ho0)) kcX10 (mX10_presentBefore (o0 + 42) v16 (chX11_6 ho0) σ v19 h19) cwX10_presentBefore cvX10_presentBefore rfl mlX11_413 ⟨by decide, by decide⟩ rfl hl.1 (Nat.le_of_ble_eq_true rfl) ⟨by decide, by decide⟩ dX11_openingWith_19 rfl (fun H locs hW hS => ?_)
    refine lv_aload_n hx0 hb dX11_openingWith_22 rfl (lv_at hl 0 rfl) ?_
    refine gtX11_14 (k := o0) C hW ho0 flX11_87 dX11_openingWith_23 ?_
    refine lv_iload_n hx0 hb dX11_openingWith_26 rfl (lv_at hl 1 rfl) ?_
    obtain ⟨v27, h27, h⟩ := bnd h
    try dsimp only at h
    refine w_callV (L := (LC E b)) (k := o0 + 360) (As := [.int x1]) (rest := [.int v19]) C hW hS (kdlt (chX11_14 ho0) (by decide)) (ccX2 (chX11_14 ho0)) kcX2 (mX2_leafSideAt (o0 + 360) x1 (chX11_14 ho0) σ v27 h27) cwX2_leafSideAt cvX2_leafSideAt rfl mlX11_367 ⟨by decide, by decide⟩ rfl hl.1 (Nat.le_of_ble_eq_true rfl) ⟨by decide, by decide⟩ dX11_openingWith_27 rfl (fun H locs hW hS => ?_)
    refine lv_iadd hx0 hb dX11_openingWith_30 ?_
    cases h
    exact w_iret C hW hS dX11_openingWith_31
  · rw [if_pos c2] at h
    refine lv_iconst (v := (-1 : Int32)) hx0 hb dX11_openingWith_5 (by decide) ?_
    cases h
    exact w_iret C hW hS dX11_openingWith_6
def fX11_goTo (o0 : Nat) (x1 : Int32) (σ : Mem) : Option Rx :=
  (fX11_requirePlace o0 x1 σ).bind fun v2 => match v2.1 with | .inl n2 => some (.inl n2, v2.2) | .inr a2 => (fX0_keep (o0 + 79) (o0 + 41) v2.2).bind fun v13 => (fX11_openingWith o0 x1 v13).bind fun v22 => (fX9_leaveFor (o0 + 69) v22 v13).bind fun v25 => (fX9_current (o0 + 69) v25).bind fun v32 => some (.inr v32, v25)
set_option maxRecDepth 100000 in
set_option maxHeartbeats 4000000 in
theorem mX11_goTo {l : Launch} {E : Ev} {b : Nat} (o0 : Nat) (x1 : Int32) (ho0 : kd o0 = 11) (σ : Mem) (r : Rx) (h : fX11_goTo o0 x1 σ = some r) : vx_Met l yX11_goTo (tw yX11_goTo cX11_goTo 2 (some .int)) { frames := 7, cells := 1, slots := 6, locals := 126 } (va_Pc [.ref (b + o0), .int x1] (Pr l E (LC E b) σ)) (Qx E (LC E b) rvI r) (Xx E (LC E b) r) 1 6 (La (LC E b)) := by
  refine cx_of (by decide) (Nat.le_of_ble_eq_true rfl) ?_
  intro p e s m below meth c C hT hW hS ls hl
  have hx0 := C.1
  have hb := C.2.1
  have hl : lv_has ls 2 [(0, .ref (b + o0)), (1, .int x1)] := hl
  unfold fX11_goTo at h
  refine lv_aload_n hx0 hb dX11_goTo_0 rfl (lv_at hl 0 rfl) ?_
  refine lv_iload_n hx0 hb dX11_goTo_1 rfl (lv_at hl 1 rfl) ?_
  obtain ⟨v2, h2, h⟩ := bnd h
  try dsimp only at h
  refine x_callV (L := (LC E b)) (k := o0) (As := [.int x1]) (rest := []) C hW hS (kdlt ho0 (by decide)) (ccX11 ho0) kcX11 (mX11_requirePlace o0 x1 ho0 σ v2 h2) cwX11_requirePlace cvX11_requirePlace rfl mlX11_308 ⟨by decide, by decide⟩ rfl hl.1 (Nat.le_of_ble_eq_true rfl) ⟨by decide, by decide⟩ dX11_goTo_2 rfl (fun n2 e2 H locs q ce hW hS hq hv hc => by rw [e2] at h; (try dsimp only at h); cases h; exact x_out C hT hW hS hq hv hc (by decide) (by decide)) (fun a2 e2 H locs hW hS => ?_)
  rw [e2] at h
  try dsimp only at h
  refine lv_aload_n hx0 hb dX11_goTo_5 rfl (lv_at hl 0 rfl) ?_
  refine gtX11_11 (k := o0) C hW ho0 flX11_73 dX11_goTo_6 ?_
  refine lv_aload_n hx0 hb dX11_goTo_9 rfl (lv_at hl 0 rfl) ?_
  refine gtX11_5 (k := o0) C hW ho0 flX11_40 dX11_goTo_10 ?_
  obtain ⟨v13, h13, h⟩ := bnd h
  try dsimp only at h
  refine w_callV (L := (LC E b)) (k := o0 + 79) (As := [.ref (b + (o0 + 41))]) (rest := []) C hW hS (kdlt (chX11_11 ho0) (by decide)) (ccX0 (chX11_11 ho0)) kcX0 (mX0_keep (o0 + 79) (o0 + 41) (chX11_11 ho0) (chX11_5 ho0) v2.2 v13 h13) cwX0_keep cvX0_keep rfl mlX11_163 ⟨by decide, by decide⟩ rfl hl.1 (Nat.le_of_ble_eq_true rfl) ⟨by decide, by decide⟩ dX11_goTo_13 rfl (fun H locs hW hS => ?_)
  refine lv_aload_n hx0 hb dX11_goTo_16 rfl (lv_at hl 0 rfl) ?_
  refine gtX11_9 (k := o0) C hW ho0 flX11_63 dX11_goTo_17 ?_
  refine lv_aload_n hx0 hb dX11_goTo_20 rfl (lv_at hl 0 rfl) ?_
  refine lv_iload_n hx0 hb dX11_goTo_21 rfl (lv_at hl 1 rfl) ?_
  obtain ⟨v22, h22, h⟩ := bnd h
  try dsimp only at h
  refine w_callV (L := (LC E b)) (k := o0) (As := [.int x1]) (rest := [.ref (b + (o0 + 69))]) C hW hS (kdlt ho0 (by decide)) (ccX11 ho0) kcX11 (mX11_openingWith o0 x1 ho0 v13 v22 h22) cwX11_openingWith cvX11_openingWith rfl mlX11_311 ⟨by decide, by decide⟩ rfl hl.1 (Nat.le_of_ble_eq_true rfl) ⟨by decide, by decide⟩ dX11_goTo_22 rfl (fun H locs hW hS => ?_)
  obtain ⟨v25, h25, h⟩ := bnd h
  try dsimp only at h
  refine w_callV (L := (LC E b)) (k := o0 + 69) (As := [.int v22]) (rest := []) C hW hS (kdlt (chX11_9 ho0) (by decide)) (ccX9 (chX11_9 ho0)) kcX9 (mX9_leaveFor (o0 + 69) v22 (chX11_9 ho0) v13 v25 h25) cwX9_leaveFor cvX9_leaveFor rfl mlX11_305 ⟨by decide, by decide⟩ rfl hl.1 (Nat.le_of_ble_eq_true rfl) ⟨by decide, by decide⟩ dX11_goTo_25 rfl (fun H locs hW hS => ?_)
  refine lv_aload_n hx0 hb dX11_goTo_28 rfl (lv_at hl 0 rfl) ?_
  refine gtX11_9 (k := o0) C hW ho0 flX11_63 dX11_goTo_29 ?_
  obtain ⟨v32, h32, h⟩ := bnd h
  try dsimp only at h
  refine w_callV (L := (LC E b)) (k := o0 + 69) (As := []) (rest := []) C hW hS (kdlt (chX11_9 ho0) (by decide)) (ccX9 (chX11_9 ho0)) kcX9 (mX9_current (o0 + 69) (chX11_9 ho0) v25 v32 h32) cwX9_current cvX9_current rfl mlX11_297 ⟨by decide, by decide⟩ rfl hl.1 (Nat.le_of_ble_eq_true rfl) ⟨by decide, by decide⟩ dX11_goTo_32 rfl (fun H locs hW hS => ?_)
  cases h
  exact x_iret C hW hS (by decide) (by decide) dX11_goTo_35
def fX11_goBack (o0 : Nat) (σ : Mem) : Option Rx :=
  (fX9_trailSize (o0 + 69) σ).bind fun v4 => if v4 = 0 then (some (.inl 0, σ)) else ((fX0_keep (o0 + 79) (o0 + 41) σ).bind fun v29 => (fX9_stepBack (o0 + 69) v29).bind fun v36 => (fX9_current (o0 + 69) v36).bind fun v43 => some (.inr v43, v36))
set_option maxRecDepth 100000 in
set_option maxHeartbeats 4000000 in
theorem mX11_goBack {l : Launch} {E : Ev} {b : Nat} (o0 : Nat) (ho0 : kd o0 = 11) (σ : Mem) (r : Rx) (h : fX11_goBack o0 σ = some r) : vx_Met l yX11_goBack (tw yX11_goBack cX11_goBack 1 (some .int)) { frames := 6, cells := 1, slots := 6, locals := 126 } (va_Pc [.ref (b + o0)] (Pr l E (LC E b) σ)) (Qx E (LC E b) rvI r) (Xx E (LC E b) r) 1 6 (La (LC E b)) := by
  refine cx_of (by decide) (Nat.le_of_ble_eq_true rfl) ?_
  intro p e s m below meth c C hT hW hS ls hl
  have hx0 := C.1
  have hb := C.2.1
  have hl : lv_has ls 1 [(0, .ref (b + o0))] := hl
  unfold fX11_goBack at h
  refine lv_aload_n hx0 hb dX11_goBack_0 rfl (lv_at hl 0 rfl) ?_
  refine gtX11_9 (k := o0) C hW ho0 flX11_63 dX11_goBack_1 ?_
  obtain ⟨v4, h4, h⟩ := bnd h
  try dsimp only at h
  refine w_callV (L := (LC E b)) (k := o0 + 69) (As := []) (rest := []) C hW hS (kdlt (chX11_9 ho0) (by decide)) (ccX9 (chX11_9 ho0)) kcX9 (mX9_trailSize (o0 + 69) (chX11_9 ho0) σ v4 h4) cwX9_trailSize cvX9_trailSize rfl mlX11_314 ⟨by decide, by decide⟩ rfl hl.1 (Nat.le_of_ble_eq_true rfl) ⟨by decide, by decide⟩ dX11_goBack_4 rfl (fun H locs hW hS => ?_)
  refine lv_if_ne (tgt := 21) hx0 hb dX11_goBack_7 (by decide) (fun c7 => ?_) (fun c7 => ?_)
  · rw [if_neg c7] at h
    refine lv_aload_n hx0 hb dX11_goBack_21 rfl (lv_at hl 0 rfl) ?_
    refine gtX11_11 (k := o0) C hW ho0 flX11_73 dX11_goBack_22 ?_
    refine lv_aload_n hx0 hb dX11_goBack_25 rfl (lv_at hl 0 rfl) ?_
    refine gtX11_5 (k := o0) C hW ho0 flX11_40 dX11_goBack_26 ?_
    obtain ⟨v29, h29, h⟩ := bnd h
    try dsimp only at h
    refine w_callV (L := (LC E b)) (k := o0 + 79) (As := [.ref (b + (o0 + 41))]) (rest := []) C hW hS (kdlt (chX11_11 ho0) (by decide)) (ccX0 (chX11_11 ho0)) kcX0 (mX0_keep (o0 + 79) (o0 + 41) (chX11_11 ho0) (chX11_5 ho0) σ v29 h29) cwX0_keep cvX0_keep rfl mlX11_163 ⟨by decide, by decide⟩ rfl hl.1 (Nat.le_of_ble_eq_true rfl) ⟨by decide, by decide⟩ dX11_goBack_29 rfl (fun H locs hW hS => ?_)
    refine lv_aload_n hx0 hb dX11_goBack_32 rfl (lv_at hl 0 rfl) ?_
    refine gtX11_9 (k := o0) C hW ho0 flX11_63 dX11_goBack_33 ?_
    obtain ⟨v36, h36, h⟩ := bnd h
    try dsimp only at h
    refine w_callV (L := (LC E b)) (k := o0 + 69) (As := []) (rest := []) C hW hS (kdlt (chX11_9 ho0) (by decide)) (ccX9 (chX11_9 ho0)) kcX9 (mX9_stepBack (o0 + 69) (chX11_9 ho0) v29 v36 h36) cwX9_stepBack cvX9_stepBack rfl mlX11_319 ⟨by decide, by decide⟩ rfl hl.1 (Nat.le_of_ble_eq_true rfl) ⟨by decide, by decide⟩ dX11_goBack_36 rfl (fun H locs hW hS => ?_)
    refine lv_aload_n hx0 hb dX11_goBack_39 rfl (lv_at hl 0 rfl) ?_
    refine gtX11_9 (k := o0) C hW ho0 flX11_63 dX11_goBack_40 ?_
    obtain ⟨v43, h43, h⟩ := bnd h
    try dsimp only at h
    refine w_callV (L := (LC E b)) (k := o0 + 69) (As := []) (rest := []) C hW hS (kdlt (chX11_9 ho0) (by decide)) (ccX9 (chX11_9 ho0)) kcX9 (mX9_current (o0 + 69) (chX11_9 ho0) v36 v43 h43) cwX9_current cvX9_current rfl mlX11_297 ⟨by decide, by decide⟩ rfl hl.1 (Nat.le_of_ble_eq_true rfl) ⟨by decide, by decide⟩ dX11_goBack_43 rfl (fun H locs hW hS => ?_)
    cases h
    exact x_iret C hW hS (by decide) (by decide) dX11_goBack_46
  · rw [if_pos c7] at h
    cases h
    exact x_throwW (n := 0) (si := 42) C hT (by decide +kernel) xat0 xgd0 xcl0 xin0 rfl hW hS hl.1 ⟨by decide, Nat.le_of_ble_eq_true rfl⟩ ⟨by decide, by decide⟩ (by decide) (by decide) dX11_goBack_10 dX11_goBack_13 dX11_goBack_14 dX11_goBack_17 dX11_goBack_20
def fX11_volume (o0 : Nat) (x1 : Int32) (σ : Mem) : Option Rx :=
  if x1 = (0 : Int32) then ((fX10_quireCount (o0 + 42) σ).bind fun v44 => some (.inr v44, σ)) else (if x1 = (1 : Int32) then ((fX10_leafCount (o0 + 42) σ).bind fun v52 => some (.inr v52, σ)) else (if x1 = (2 : Int32) then ((fX10_presentCount (o0 + 42) σ).bind fun v60 => some (.inr v60, σ)) else (if x1 = (3 : Int32) then ((fX10_slipCount (o0 + 42) σ).bind fun v68 => some (.inr v68, σ)) else (if x1 = (4 : Int32) then ((fX10_attachedCount (o0 + 42) σ).bind fun v76 => some (.inr v76, σ)) else (if x1 = (5 : Int32) then ((fX1_size (o0 + 53) σ).bind fun v84 => some (.inr v84, σ)) else (some (.inl 1, σ)))))))
set_option maxRecDepth 100000 in
set_option maxHeartbeats 4000000 in
theorem mX11_volume {l : Launch} {E : Ev} {b : Nat} (o0 : Nat) (x1 : Int32) (ho0 : kd o0 = 11) (σ : Mem) (r : Rx) (h : fX11_volume o0 x1 σ = some r) : vx_Met l yX11_volume (tw yX11_volume cX11_volume 2 (some .int)) { frames := 6, cells := 1, slots := 6, locals := 90 } (va_Pc [.ref (b + o0), .int x1] (Pr l E (LC E b) σ)) (Qx E (LC E b) rvI r) (Xx E (LC E b) r) 1 6 (La (LC E b)) := by
  refine cx_of (by decide) (Nat.le_of_ble_eq_true rfl) ?_
  intro p e s m below meth c C hT hW hS ls hl
  have hx0 := C.1
  have hb := C.2.1
  have hl : lv_has ls 2 [(0, .ref (b + o0)), (1, .int x1)] := hl
  unfold fX11_volume at h
  refine lv_iload_n hx0 hb dX11_volume_0 rfl (lv_at hl 1 rfl) ?_
  by_cases q1_0 : x1 = (0 : Int32)
  · rw [if_pos q1_0] at h
    refine lv_tableIn (tgt := 40) hx0 hb dX11_volume_1 (by rw [q1_0]; decide) (by rw [q1_0]; decide) (by rw [q1_0]; rfl) (by decide) ?_
    refine lv_aload_n hx0 hb dX11_volume_40 rfl (lv_at hl 0 rfl) ?_
    refine gtX11_6 (k := o0) C hW ho0 flX11_48 dX11_volume_41 ?_
    obtain ⟨v44, h44, h⟩ := bnd h
    try dsimp only at h
    refine w_callV (L := (LC E b)) (k := o0 + 42) (As := []) (rest := []) C hW hS (kdlt (chX11_6 ho0) (by decide)) (ccX10 (chX11_6 ho0)) kcX10 (mX10_quireCount (o0 + 42) (chX11_6 ho0) σ v44 h44) cwX10_quireCount cvX10_quireCount rfl mlX11_322 ⟨by decide, by decide⟩ rfl hl.1 (Nat.le_of_ble_eq_true rfl) ⟨by decide, by decide⟩ dX11_volume_44 rfl (fun H locs hW hS => ?_)
    cases h
    exact x_iret C hW hS (by decide) (by decide) dX11_volume_47
  rw [if_neg q1_0] at h
  by_cases q1_1 : x1 = (1 : Int32)
  · rw [if_pos q1_1] at h
    refine lv_tableIn (tgt := 48) hx0 hb dX11_volume_1 (by rw [q1_1]; decide) (by rw [q1_1]; decide) (by rw [q1_1]; rfl) (by decide) ?_
    refine lv_aload_n hx0 hb dX11_volume_48 rfl (lv_at hl 0 rfl) ?_
    refine gtX11_6 (k := o0) C hW ho0 flX11_48 dX11_volume_49 ?_
    obtain ⟨v52, h52, h⟩ := bnd h
    try dsimp only at h
    refine w_callV (L := (LC E b)) (k := o0 + 42) (As := []) (rest := []) C hW hS (kdlt (chX11_6 ho0) (by decide)) (ccX10 (chX11_6 ho0)) kcX10 (mX10_leafCount (o0 + 42) (chX11_6 ho0) σ v52 h52) cwX10_leafCount cvX10_leafCount rfl mlX11_144 ⟨by decide, by decide⟩ rfl hl.1 (Nat.le_of_ble_eq_true rfl) ⟨by decide, by decide⟩ dX11_volume_52 rfl (fun H locs hW hS => ?_)
    cases h
    exact x_iret C hW hS (by decide) (by decide) dX11_volume_55
  rw [if_neg q1_1] at h
  by_cases q1_2 : x1 = (2 : Int32)
  · rw [if_pos q1_2] at h
    refine lv_tableIn (tgt := 56) hx0 hb dX11_volume_1 (by rw [q1_2]; decide) (by rw [q1_2]; decide) (by rw [q1_2]; rfl) (by decide) ?_
    refine lv_aload_n hx0 hb dX11_volume_56 rfl (lv_at hl 0 rfl) ?_
    refine gtX11_6 (k := o0) C hW ho0 flX11_48 dX11_volume_57 ?_
    obtain ⟨v60, h60, h⟩ := bnd h
    try dsimp only at h
    refine w_callV (L := (LC E b)) (k := o0 + 42) (As := []) (rest := []) C hW hS (kdlt (chX11_6 ho0) (by decide)) (ccX10 (chX11_6 ho0)) kcX10 (mX10_presentCount (o0 + 42) (chX11_6 ho0) σ v60 h60) cwX10_presentCount cvX10_presentCount rfl mlX11_175 ⟨by decide, by decide⟩ rfl hl.1 (Nat.le_of_ble_eq_true rfl) ⟨by decide, by decide⟩ dX11_volume_60 rfl (fun H locs hW hS => ?_)
    cases h
    exact x_iret C hW hS (by decide) (by decide) dX11_volume_63
  rw [if_neg q1_2] at h
  by_cases q1_3 : x1 = (3 : Int32)
  · rw [if_pos q1_3] at h
    refine lv_tableIn (tgt := 64) hx0 hb dX11_volume_1 (by rw [q1_3]; decide) (by rw [q1_3]; decide) (by rw [q1_3]; rfl) (by decide) ?_
    refine lv_aload_n hx0 hb dX11_volume_64 rfl (lv_at hl 0 rfl) ?_
    refine gtX11_6 (k := o0) C hW ho0 flX11_48 dX11_volume_65 ?_
    obtain ⟨v68, h68, h⟩ := bnd h
    try dsimp only at h
    refine w_callV (L := (LC E b)) (k := o0 + 42) (As := []) (rest := []) C hW hS (kdlt (chX11_6 ho0) (by decide)) (ccX10 (chX11_6 ho0)) kcX10 (mX10_slipCount (o0 + 42) (chX11_6 ho0) σ v68 h68) cwX10_slipCount cvX10_slipCount rfl mlX11_198 ⟨by decide, by decide⟩ rfl hl.1 (Nat.le_of_ble_eq_true rfl) ⟨by decide, by decide⟩ dX11_volume_68 rfl (fun H locs hW hS => ?_)
    cases h
    exact x_iret C hW hS (by decide) (by decide) dX11_volume_71
  rw [if_neg q1_3] at h
  by_cases q1_4 : x1 = (4 : Int32)
  · rw [if_pos q1_4] at h
    refine lv_tableIn (tgt := 72) hx0 hb dX11_volume_1 (by rw [q1_4]; decide) (by rw [q1_4]; decide) (by rw [q1_4]; rfl) (by decide) ?_
    refine lv_aload_n hx0 hb dX11_volume_72 rfl (lv_at hl 0 rfl) ?_
    refine gtX11_6 (k := o0) C hW ho0 flX11_48 dX11_volume_73 ?_
    obtain ⟨v76, h76, h⟩ := bnd h
    try dsimp only at h
    refine w_callV (L := (LC E b)) (k := o0 + 42) (As := []) (rest := []) C hW hS (kdlt (chX11_6 ho0) (by decide)) (ccX10 (chX11_6 ho0)) kcX10 (mX10_attachedCount (o0 + 42) (chX11_6 ho0) σ v76 h76) cwX10_attachedCount cvX10_attachedCount rfl mlX11_210 ⟨by decide, by decide⟩ rfl hl.1 (Nat.le_of_ble_eq_true rfl) ⟨by decide, by decide⟩ dX11_volume_76 rfl (fun H locs hW hS => ?_)
    cases h
    exact x_iret C hW hS (by decide) (by decide) dX11_volume_79
  rw [if_neg q1_4] at h
  by_cases q1_5 : x1 = (5 : Int32)
  · rw [if_pos q1_5] at h
    refine lv_tableIn (tgt := 80) hx0 hb dX11_volume_1 (by rw [q1_5]; decide) (by rw [q1_5]; decide) (by rw [q1_5]; rfl) (by decide) ?_
    refine lv_aload_n hx0 hb dX11_volume_80 rfl (lv_at hl 0 rfl) ?_
    refine gtX11_7 (k := o0) C hW ho0 flX11_53 dX11_volume_81 ?_
    obtain ⟨v84, h84, h⟩ := bnd h
    try dsimp only at h
    refine w_callV (L := (LC E b)) (k := o0 + 53) (As := []) (rest := []) C hW hS (kdlt (chX11_7 ho0) (by decide)) (ccX1 (chX11_7 ho0)) kcX1 (mX1_size (o0 + 53) (chX11_7 ho0) σ v84 h84) cwX1_size cvX1_size rfl mlX11_228 ⟨by decide, by decide⟩ rfl hl.1 (Nat.le_of_ble_eq_true rfl) ⟨by decide, by decide⟩ dX11_volume_84 rfl (fun H locs hW hS => ?_)
    cases h
    exact x_iret C hW hS (by decide) (by decide) dX11_volume_87
  rw [if_neg q1_5] at h
  refine lv_tableOut (tgt := 88) hx0 hb dX11_volume_1 (tab6 q1_0 q1_1 q1_2 q1_3 q1_4 q1_5) (by decide) ?_
  cases h
  exact x_throwW (n := 1) (si := 43) C hT (by decide +kernel) xat1 xgd1 xcl1 xin1 rfl hW hS hl.1 ⟨by decide, Nat.le_of_ble_eq_true rfl⟩ ⟨by decide, by decide⟩ (by decide) (by decide) dX11_volume_88 dX11_volume_91 dX11_volume_92 dX11_volume_95 dX11_volume_98
def fX11_leaf (o0 : Nat) (x1 : Int32) (x2 : Int32) (σ : Mem) : Option Rx :=
  (fX11_requireLeaf o0 x1 σ).bind fun v2 => match v2.1 with | .inl n2 => some (.inl n2, v2.2) | .inr a2 => if x2 = (0 : Int32) then ((fX10_isPresent (o0 + 42) x1 v2.2).bind fun v49 => if v49 = 0 then (some (.inr (0 : Int32), v2.2)) else (some (.inr (1 : Int32), v2.2))) else (if x2 = (1 : Int32) then ((fX10_quireOf (o0 + 42) x1 v2.2).bind fun v66 => some (.inr v66, v2.2)) else (if x2 = (2 : Int32) then ((fX10_indexInQuire (o0 + 42) x1 v2.2).bind fun v75 => some (.inr v75, v2.2)) else (if x2 = (3 : Int32) then ((fX10_conjugateOf (o0 + 42) x1 v2.2).bind fun v84 => some (.inr v84, v2.2)) else (if x2 = (4 : Int32) then ((fX10_slipsOn (o0 + 42) x1 (0 : Int32) v2.2).bind fun v94 => some (.inr v94, v2.2)) else (if x2 = (5 : Int32) then ((fX10_slipsOn (o0 + 42) x1 (1 : Int32) v2.2).bind fun v104 => some (.inr v104, v2.2)) else (some (.inl 1, v2.2)))))))
set_option maxRecDepth 100000 in
set_option maxHeartbeats 4000000 in
theorem mX11_leaf {l : Launch} {E : Ev} {b : Nat} (o0 : Nat) (x1 : Int32) (x2 : Int32) (ho0 : kd o0 = 11) (σ : Mem) (r : Rx) (h : fX11_leaf o0 x1 x2 σ = some r) : vx_Met l yX11_leaf (tw yX11_leaf cX11_leaf 3 (some .int)) { frames := 7, cells := 2, slots := 12, locals := 111 } (va_Pc [.ref (b + o0), .int x1, .int x2] (Pr l E (LC E b) σ)) (Qx E (LC E b) rvI r) (Xx E (LC E b) r) 2 12 (La (LC E b)) := by
  refine cx_of (by decide) (Nat.le_of_ble_eq_true rfl) ?_
  intro p e s m below meth c C hT hW hS ls hl
  have hx0 := C.1
  have hb := C.2.1
  have hl : lv_has ls 3 [(0, .ref (b + o0)), (1, .int x1), (2, .int x2)] := hl
  unfold fX11_leaf at h
  refine lv_aload_n hx0 hb dX11_leaf_0 rfl (lv_at hl 0 rfl) ?_
  refine lv_iload_n hx0 hb dX11_leaf_1 rfl (lv_at hl 1 rfl) ?_
  obtain ⟨v2, h2, h⟩ := bnd h
  try dsimp only at h
  refine x_callV (L := (LC E b)) (k := o0) (As := [.int x1]) (rest := []) C hW hS (kdlt ho0 (by decide)) (ccX11 ho0) kcX11 (mX11_requireLeaf o0 x1 ho0 σ v2 h2) cwX11_requireLeaf cvX11_requireLeaf rfl mlX11_150 ⟨by decide, by decide⟩ rfl hl.1 (Nat.le_of_ble_eq_true rfl) ⟨by decide, by decide⟩ dX11_leaf_2 rfl (fun n2 e2 H locs q ce hW hS hq hv hc => by rw [e2] at h; (try dsimp only at h); cases h; exact x_out C hT hW hS hq hv hc (by decide) (by decide)) (fun a2 e2 H locs hW hS => ?_)
  rw [e2] at h
  try dsimp only at h
  refine lv_iload_n hx0 hb dX11_leaf_5 rfl (lv_at hl 2 rfl) ?_
  by_cases q6_0 : x2 = (0 : Int32)
  · rw [if_pos q6_0] at h
    refine lv_tableIn (tgt := 44) hx0 hb dX11_leaf_6 (by rw [q6_0]; decide) (by rw [q6_0]; decide) (by rw [q6_0]; rfl) (by decide) ?_
    refine lv_aload_n hx0 hb dX11_leaf_44 rfl (lv_at hl 0 rfl) ?_
    refine gtX11_6 (k := o0) C hW ho0 flX11_48 dX11_leaf_45 ?_
    refine lv_iload_n hx0 hb dX11_leaf_48 rfl (lv_at hl 1 rfl) ?_
    obtain ⟨v49, h49, h⟩ := bnd h
    try dsimp only at h
    refine w_callV (L := (LC E b)) (k := o0 + 42) (As := [.int x1]) (rest := []) C hW hS (kdlt (chX11_6 ho0) (by decide)) (ccX10 (chX11_6 ho0)) kcX10 (mX10_isPresent (o0 + 42) x1 (chX11_6 ho0) v2.2 v49 h49) cwX10_isPresent cvX10_isPresent rfl mlX11_153 ⟨by decide, by decide⟩ rfl hl.1 (Nat.le_of_ble_eq_true rfl) ⟨by decide, by decide⟩ dX11_leaf_49 rfl (fun H locs hW hS => ?_)
    refine lv_if_eq (tgt := 59) hx0 hb dX11_leaf_52 (by decide) (fun c52 => ?_) (fun c52 => ?_)
    · rw [if_pos c52] at h
      refine lv_iconst (v := (0 : Int32)) hx0 hb dX11_leaf_59 (by decide) ?_
      cases h
      exact x_iret C hW hS (by decide) (by decide) dX11_leaf_60
    · rw [if_neg c52] at h
      refine lv_iconst (v := (1 : Int32)) hx0 hb dX11_leaf_55 (by decide) ?_
      refine lv_goto (tgt := 60) hx0 hb dX11_leaf_56 (by decide) ?_
      cases h
      exact x_iret C hW hS (by decide) (by decide) dX11_leaf_60
  rw [if_neg q6_0] at h
  by_cases q6_1 : x2 = (1 : Int32)
  · rw [if_pos q6_1] at h
    refine lv_tableIn (tgt := 61) hx0 hb dX11_leaf_6 (by rw [q6_1]; decide) (by rw [q6_1]; decide) (by rw [q6_1]; rfl) (by decide) ?_
    refine lv_aload_n hx0 hb dX11_leaf_61 rfl (lv_at hl 0 rfl) ?_
    refine gtX11_6 (k := o0) C hW ho0 flX11_48 dX11_leaf_62 ?_
    refine lv_iload_n hx0 hb dX11_leaf_65 rfl (lv_at hl 1 rfl) ?_
    obtain ⟨v66, h66, h⟩ := bnd h
    try dsimp only at h
    refine w_callV (L := (LC E b)) (k := o0 + 42) (As := [.int x1]) (rest := []) C hW hS (kdlt (chX11_6 ho0) (by decide)) (ccX10 (chX11_6 ho0)) kcX10 (mX10_quireOf (o0 + 42) x1 (chX11_6 ho0) v2.2 v66 h66) cwX10_quireOf cvX10_quireOf rfl mlX11_327 ⟨by decide, by decide⟩ rfl hl.1 (Nat.le_of_ble_eq_true rfl) ⟨by decide, by decide⟩ dX11_leaf_66 rfl (fun H locs hW hS => ?_)
    cases h
    exact x_iret C hW hS (by decide) (by decide) dX11_leaf_69
  rw [if_neg q6_1] at h
  by_cases q6_2 : x2 = (2 : Int32)
  · rw [if_pos q6_2] at h
    refine lv_tableIn (tgt := 70) hx0 hb dX11_leaf_6 (by rw [q6_2]; decide) (by rw [q6_2]; decide) (by rw [q6_2]; rfl) (by decide) ?_
    refine lv_aload_n hx0 hb dX11_leaf_70 rfl (lv_at hl 0 rfl) ?_
    refine gtX11_6 (k := o0) C hW ho0 flX11_48 dX11_leaf_71 ?_
    refine lv_iload_n hx0 hb dX11_leaf_74 rfl (lv_at hl 1 rfl) ?_
    obtain ⟨v75, h75, h⟩ := bnd h
    try dsimp only at h
    refine w_callV (L := (LC E b)) (k := o0 + 42) (As := [.int x1]) (rest := []) C hW hS (kdlt (chX11_6 ho0) (by decide)) (ccX10 (chX11_6 ho0)) kcX10 (mX10_indexInQuire (o0 + 42) x1 (chX11_6 ho0) v2.2 v75 h75) cwX10_indexInQuire cvX10_indexInQuire rfl mlX11_330 ⟨by decide, by decide⟩ rfl hl.1 (Nat.le_of_ble_eq_true rfl) ⟨by decide, by decide⟩ dX11_leaf_75 rfl (fun H locs hW hS => ?_)
    cases h
    exact x_iret C hW hS (by decide) (by decide) dX11_leaf_78
  rw [if_neg q6_2] at h
  by_cases q6_3 : x2 = (3 : Int32)
  · rw [if_pos q6_3] at h
    refine lv_tableIn (tgt := 79) hx0 hb dX11_leaf_6 (by rw [q6_3]; decide) (by rw [q6_3]; decide) (by rw [q6_3]; rfl) (by decide) ?_
    refine lv_aload_n hx0 hb dX11_leaf_79 rfl (lv_at hl 0 rfl) ?_
    refine gtX11_6 (k := o0) C hW ho0 flX11_48 dX11_leaf_80 ?_
    refine lv_iload_n hx0 hb dX11_leaf_83 rfl (lv_at hl 1 rfl) ?_
    obtain ⟨v84, h84, h⟩ := bnd h
    try dsimp only at h
    refine w_callV (L := (LC E b)) (k := o0 + 42) (As := [.int x1]) (rest := []) C hW hS (kdlt (chX11_6 ho0) (by decide)) (ccX10 (chX11_6 ho0)) kcX10 (mX10_conjugateOf (o0 + 42) x1 (chX11_6 ho0) v2.2 v84 h84) cwX10_conjugateOf cvX10_conjugateOf rfl mlX11_333 ⟨by decide, by decide⟩ rfl hl.1 (Nat.le_of_ble_eq_true rfl) ⟨by decide, by decide⟩ dX11_leaf_84 rfl (fun H locs hW hS => ?_)
    cases h
    exact x_iret C hW hS (by decide) (by decide) dX11_leaf_87
  rw [if_neg q6_3] at h
  by_cases q6_4 : x2 = (4 : Int32)
  · rw [if_pos q6_4] at h
    refine lv_tableIn (tgt := 88) hx0 hb dX11_leaf_6 (by rw [q6_4]; decide) (by rw [q6_4]; decide) (by rw [q6_4]; rfl) (by decide) ?_
    refine lv_aload_n hx0 hb dX11_leaf_88 rfl (lv_at hl 0 rfl) ?_
    refine gtX11_6 (k := o0) C hW ho0 flX11_48 dX11_leaf_89 ?_
    refine lv_iload_n hx0 hb dX11_leaf_92 rfl (lv_at hl 1 rfl) ?_
    refine lv_iconst (v := (0 : Int32)) hx0 hb dX11_leaf_93 (by decide) ?_
    obtain ⟨v94, h94, h⟩ := bnd h
    try dsimp only at h
    refine w_callV (L := (LC E b)) (k := o0 + 42) (As := [.int x1, .int (0 : Int32)]) (rest := []) C hW hS (kdlt (chX11_6 ho0) (by decide)) (ccX10 (chX11_6 ho0)) kcX10 (mX10_slipsOn (o0 + 42) x1 (0 : Int32) (chX11_6 ho0) v2.2 v94 h94) cwX10_slipsOn cvX10_slipsOn rfl mlX11_336 ⟨by decide, by decide⟩ rfl hl.1 (Nat.le_of_ble_eq_true rfl) ⟨by decide, by decide⟩ dX11_leaf_94 rfl (fun H locs hW hS => ?_)
    cases h
    exact x_iret C hW hS (by decide) (by decide) dX11_leaf_97
  rw [if_neg q6_4] at h
  by_cases q6_5 : x2 = (5 : Int32)
  · rw [if_pos q6_5] at h
    refine lv_tableIn (tgt := 98) hx0 hb dX11_leaf_6 (by rw [q6_5]; decide) (by rw [q6_5]; decide) (by rw [q6_5]; rfl) (by decide) ?_
    refine lv_aload_n hx0 hb dX11_leaf_98 rfl (lv_at hl 0 rfl) ?_
    refine gtX11_6 (k := o0) C hW ho0 flX11_48 dX11_leaf_99 ?_
    refine lv_iload_n hx0 hb dX11_leaf_102 rfl (lv_at hl 1 rfl) ?_
    refine lv_iconst (v := (1 : Int32)) hx0 hb dX11_leaf_103 (by decide) ?_
    obtain ⟨v104, h104, h⟩ := bnd h
    try dsimp only at h
    refine w_callV (L := (LC E b)) (k := o0 + 42) (As := [.int x1, .int (1 : Int32)]) (rest := []) C hW hS (kdlt (chX11_6 ho0) (by decide)) (ccX10 (chX11_6 ho0)) kcX10 (mX10_slipsOn (o0 + 42) x1 (1 : Int32) (chX11_6 ho0) v2.2 v104 h104) cwX10_slipsOn cvX10_slipsOn rfl mlX11_336 ⟨by decide, by decide⟩ rfl hl.1 (Nat.le_of_ble_eq_true rfl) ⟨by decide, by decide⟩ dX11_leaf_104 rfl (fun H locs hW hS => ?_)
    cases h
    exact x_iret C hW hS (by decide) (by decide) dX11_leaf_107
  rw [if_neg q6_5] at h
  refine lv_tableOut (tgt := 108) hx0 hb dX11_leaf_6 (tab6 q6_0 q6_1 q6_2 q6_3 q6_4 q6_5) (by decide) ?_
  cases h
  exact x_throwW (n := 1) (si := 44) C hT (by decide +kernel) xat1 xgd1 xcl1 xin1 rfl hW hS hl.1 ⟨by decide, Nat.le_of_ble_eq_true rfl⟩ ⟨by decide, by decide⟩ (by decide) (by decide) dX11_leaf_108 dX11_leaf_111 dX11_leaf_112 dX11_leaf_115 dX11_leaf_118
def fX11_slip (o0 : Nat) (x1 : Int32) (x2 : Int32) (σ : Mem) : Option Rx :=
  (fX11_requireSlip o0 x1 σ).bind fun v2 => match v2.1 with | .inl n2 => some (.inl n2, v2.2) | .inr a2 => if x2 = (0 : Int32) then ((fX10_leafOfSlip (o0 + 42) x1 v2.2).bind fun v37 => some (.inr v37, v2.2)) else (if x2 = (1 : Int32) then ((fX10_sideOfSlip (o0 + 42) x1 v2.2).bind fun v46 => some (.inr v46, v2.2)) else (if x2 = (2 : Int32) then ((fX10_sidesOfSlip (o0 + 42) x1 v2.2).bind fun v55 => some (.inr v55, v2.2)) else (some (.inl 1, v2.2))))
set_option maxRecDepth 100000 in
set_option maxHeartbeats 4000000 in
theorem mX11_slip {l : Launch} {E : Ev} {b : Nat} (o0 : Nat) (x1 : Int32) (x2 : Int32) (ho0 : kd o0 = 11) (σ : Mem) (r : Rx) (h : fX11_slip o0 x1 x2 σ = some r) : vx_Met l yX11_slip (tw yX11_slip cX11_slip 3 (some .int)) { frames := 7, cells := 2, slots := 12, locals := 111 } (va_Pc [.ref (b + o0), .int x1, .int x2] (Pr l E (LC E b) σ)) (Qx E (LC E b) rvI r) (Xx E (LC E b) r) 2 12 (La (LC E b)) := by
  refine cx_of (by decide) (Nat.le_of_ble_eq_true rfl) ?_
  intro p e s m below meth c C hT hW hS ls hl
  have hx0 := C.1
  have hb := C.2.1
  have hl : lv_has ls 3 [(0, .ref (b + o0)), (1, .int x1), (2, .int x2)] := hl
  unfold fX11_slip at h
  refine lv_aload_n hx0 hb dX11_slip_0 rfl (lv_at hl 0 rfl) ?_
  refine lv_iload_n hx0 hb dX11_slip_1 rfl (lv_at hl 1 rfl) ?_
  obtain ⟨v2, h2, h⟩ := bnd h
  try dsimp only at h
  refine x_callV (L := (LC E b)) (k := o0) (As := [.int x1]) (rest := []) C hW hS (kdlt ho0 (by decide)) (ccX11 ho0) kcX11 (mX11_requireSlip o0 x1 ho0 σ v2 h2) cwX11_requireSlip cvX11_requireSlip rfl mlX11_201 ⟨by decide, by decide⟩ rfl hl.1 (Nat.le_of_ble_eq_true rfl) ⟨by decide, by decide⟩ dX11_slip_2 rfl (fun n2 e2 H locs q ce hW hS hq hv hc => by rw [e2] at h; (try dsimp only at h); cases h; exact x_out C hT hW hS hq hv hc (by decide) (by decide)) (fun a2 e2 H locs hW hS => ?_)
  rw [e2] at h
  try dsimp only at h
  refine lv_iload_n hx0 hb dX11_slip_5 rfl (lv_at hl 2 rfl) ?_
  by_cases q6_0 : x2 = (0 : Int32)
  · rw [if_pos q6_0] at h
    refine lv_tableIn (tgt := 32) hx0 hb dX11_slip_6 (by rw [q6_0]; decide) (by rw [q6_0]; decide) (by rw [q6_0]; rfl) (by decide) ?_
    refine lv_aload_n hx0 hb dX11_slip_32 rfl (lv_at hl 0 rfl) ?_
    refine gtX11_6 (k := o0) C hW ho0 flX11_48 dX11_slip_33 ?_
    refine lv_iload_n hx0 hb dX11_slip_36 rfl (lv_at hl 1 rfl) ?_
    obtain ⟨v37, h37, h⟩ := bnd h
    try dsimp only at h
    refine w_callV (L := (LC E b)) (k := o0 + 42) (As := [.int x1]) (rest := []) C hW hS (kdlt (chX11_6 ho0) (by decide)) (ccX10 (chX11_6 ho0)) kcX10 (mX10_leafOfSlip (o0 + 42) x1 (chX11_6 ho0) v2.2 v37 h37) cwX10_leafOfSlip cvX10_leafOfSlip rfl mlX11_342 ⟨by decide, by decide⟩ rfl hl.1 (Nat.le_of_ble_eq_true rfl) ⟨by decide, by decide⟩ dX11_slip_37 rfl (fun H locs hW hS => ?_)
    cases h
    exact x_iret C hW hS (by decide) (by decide) dX11_slip_40
  rw [if_neg q6_0] at h
  by_cases q6_1 : x2 = (1 : Int32)
  · rw [if_pos q6_1] at h
    refine lv_tableIn (tgt := 41) hx0 hb dX11_slip_6 (by rw [q6_1]; decide) (by rw [q6_1]; decide) (by rw [q6_1]; rfl) (by decide) ?_
    refine lv_aload_n hx0 hb dX11_slip_41 rfl (lv_at hl 0 rfl) ?_
    refine gtX11_6 (k := o0) C hW ho0 flX11_48 dX11_slip_42 ?_
    refine lv_iload_n hx0 hb dX11_slip_45 rfl (lv_at hl 1 rfl) ?_
    obtain ⟨v46, h46, h⟩ := bnd h
    try dsimp only at h
    refine w_callV (L := (LC E b)) (k := o0 + 42) (As := [.int x1]) (rest := []) C hW hS (kdlt (chX11_6 ho0) (by decide)) (ccX10 (chX11_6 ho0)) kcX10 (mX10_sideOfSlip (o0 + 42) x1 (chX11_6 ho0) v2.2 v46 h46) cwX10_sideOfSlip cvX10_sideOfSlip rfl mlX11_345 ⟨by decide, by decide⟩ rfl hl.1 (Nat.le_of_ble_eq_true rfl) ⟨by decide, by decide⟩ dX11_slip_46 rfl (fun H locs hW hS => ?_)
    cases h
    exact x_iret C hW hS (by decide) (by decide) dX11_slip_49
  rw [if_neg q6_1] at h
  by_cases q6_2 : x2 = (2 : Int32)
  · rw [if_pos q6_2] at h
    refine lv_tableIn (tgt := 50) hx0 hb dX11_slip_6 (by rw [q6_2]; decide) (by rw [q6_2]; decide) (by rw [q6_2]; rfl) (by decide) ?_
    refine lv_aload_n hx0 hb dX11_slip_50 rfl (lv_at hl 0 rfl) ?_
    refine gtX11_6 (k := o0) C hW ho0 flX11_48 dX11_slip_51 ?_
    refine lv_iload_n hx0 hb dX11_slip_54 rfl (lv_at hl 1 rfl) ?_
    obtain ⟨v55, h55, h⟩ := bnd h
    try dsimp only at h
    refine w_callV (L := (LC E b)) (k := o0 + 42) (As := [.int x1]) (rest := []) C hW hS (kdlt (chX11_6 ho0) (by decide)) (ccX10 (chX11_6 ho0)) kcX10 (mX10_sidesOfSlip (o0 + 42) x1 (chX11_6 ho0) v2.2 v55 h55) cwX10_sidesOfSlip cvX10_sidesOfSlip rfl mlX11_246 ⟨by decide, by decide⟩ rfl hl.1 (Nat.le_of_ble_eq_true rfl) ⟨by decide, by decide⟩ dX11_slip_55 rfl (fun H locs hW hS => ?_)
    cases h
    exact x_iret C hW hS (by decide) (by decide) dX11_slip_58
  rw [if_neg q6_2] at h
  refine lv_tableOut (tgt := 59) hx0 hb dX11_slip_6 (tab3 q6_0 q6_1 q6_2) (by decide) ?_
  cases h
  exact x_throwW (n := 1) (si := 45) C hT (by decide +kernel) xat1 xgd1 xcl1 xin1 rfl hW hS hl.1 ⟨by decide, Nat.le_of_ble_eq_true rfl⟩ ⟨by decide, by decide⟩ (by decide) (by decide) dX11_slip_59 dX11_slip_62 dX11_slip_63 dX11_slip_66 dX11_slip_69
def fX11_formatCollation (o0 : Nat) (σ : Mem) : Option (Int32 × Mem) :=
  (fX8_shortenTo (o0 + 35) (0 : Int32) σ).bind fun v5 => (fX10_writeCollation (o0 + 42) (o0 + 35) v5).bind fun v16 => (fX8_size (o0 + 35) v16).bind fun v23 => some (v23, v16)
set_option maxRecDepth 100000 in
set_option maxHeartbeats 4000000 in
theorem mX11_formatCollation {l : Launch} {E : Ev} {b : Nat} (o0 : Nat) (ho0 : kd o0 = 11) (σ : Mem) (r : (Int32 × Mem)) (h : fX11_formatCollation o0 σ = some r) : Met l yX11_formatCollation (tw yX11_formatCollation cX11_formatCollation 1 (some .int)) { frames := 4, cells := 0, slots := 0, locals := 91 } (va_Pc [.ref (b + o0)] (Pr l E (LC E b) σ)) (Qz E (LC E b) (some (.int r.1)) r.2) 0 0 (La (LC E b)) := by
  refine ct_of (by decide) (Nat.le_of_ble_eq_true rfl) ?_
  intro p e s m below meth c C hW hS ls hl
  have hx0 := C.1
  have hb := C.2.1
  have hl : lv_has ls 1 [(0, .ref (b + o0))] := hl
  unfold fX11_formatCollation at h
  refine lv_aload_n hx0 hb dX11_formatCollation_0 rfl (lv_at hl 0 rfl) ?_
  refine gtX11_2 (k := o0) C hW ho0 flX11_28 dX11_formatCollation_1 ?_
  refine lv_iconst (v := (0 : Int32)) hx0 hb dX11_formatCollation_4 (by decide) ?_
  obtain ⟨v5, h5, h⟩ := bnd h
  try dsimp only at h
  refine w_callV (L := (LC E b)) (k := o0 + 35) (As := [.int (0 : Int32)]) (rest := []) C hW hS (kdlt (chX11_2 ho0) (by decide)) (ccX8 (chX11_2 ho0)) kcX8 (mX8_shortenTo (o0 + 35) (0 : Int32) (chX11_2 ho0) σ v5 h5) cwX8_shortenTo cvX8_shortenTo rfl mlX11_126 ⟨by decide, by decide⟩ rfl hl.1 (Nat.le_of_ble_eq_true rfl) ⟨by decide, by decide⟩ dX11_formatCollation_5 rfl (fun H locs hW hS => ?_)
  refine lv_aload_n hx0 hb dX11_formatCollation_8 rfl (lv_at hl 0 rfl) ?_
  refine gtX11_6 (k := o0) C hW ho0 flX11_48 dX11_formatCollation_9 ?_
  refine lv_aload_n hx0 hb dX11_formatCollation_12 rfl (lv_at hl 0 rfl) ?_
  refine gtX11_2 (k := o0) C hW ho0 flX11_28 dX11_formatCollation_13 ?_
  obtain ⟨v16, h16, h⟩ := bnd h
  try dsimp only at h
  refine w_callV (L := (LC E b)) (k := o0 + 42) (As := [.ref (b + (o0 + 35))]) (rest := []) C hW hS (kdlt (chX11_6 ho0) (by decide)) (ccX10 (chX11_6 ho0)) kcX10 (mX10_writeCollation (o0 + 42) (o0 + 35) (chX11_6 ho0) (chX11_2 ho0) v5 v16 h16) cwX10_writeCollation cvX10_writeCollation rfl mlX11_350 ⟨by decide, by decide⟩ rfl hl.1 (Nat.le_of_ble_eq_true rfl) ⟨by decide, by decide⟩ dX11_formatCollation_16 rfl (fun H locs hW hS => ?_)
  refine lv_aload_n hx0 hb dX11_formatCollation_19 rfl (lv_at hl 0 rfl) ?_
  refine gtX11_2 (k := o0) C hW ho0 flX11_28 dX11_formatCollation_20 ?_
  obtain ⟨v23, h23, h⟩ := bnd h
  try dsimp only at h
  refine w_callV (L := (LC E b)) (k := o0 + 35) (As := []) (rest := []) C hW hS (kdlt (chX11_2 ho0) (by decide)) (ccX8 (chX11_2 ho0)) kcX8 (mX8_size (o0 + 35) (chX11_2 ho0) v16 v23 h23) cwX8_size cvX8_size rfl mlX11_107 ⟨by decide, by decide⟩ rfl hl.1 (Nat.le_of_ble_eq_true rfl) ⟨by decide, by decide⟩ dX11_formatCollation_23 rfl (fun H locs hW hS => ?_)
  cases h
  exact w_iret C hW hS dX11_formatCollation_26
def fX11_formattedByte (o0 : Nat) (x1 : Int32) (σ : Mem) : Option Rx :=
  if x1 < 0 then (some (.inl 2, σ)) else ((fX8_size (o0 + 35) σ).bind fun v9 => if x1 < v9 then ((fX8_byteAt (o0 + 35) x1 σ).bind fun v31 => some (.inr v31, σ)) else (some (.inl 2, σ)))
set_option maxRecDepth 100000 in
set_option maxHeartbeats 4000000 in
theorem mX11_formattedByte {l : Launch} {E : Ev} {b : Nat} (o0 : Nat) (x1 : Int32) (ho0 : kd o0 = 11) (σ : Mem) (r : Rx) (h : fX11_formattedByte o0 x1 σ = some r) : vx_Met l yX11_formattedByte (tw yX11_formattedByte cX11_formattedByte 2 (some .int)) { frames := 6, cells := 1, slots := 6, locals := 90 } (va_Pc [.ref (b + o0), .int x1] (Pr l E (LC E b) σ)) (Qx E (LC E b) rvI r) (Xx E (LC E b) r) 1 6 (La (LC E b)) := by
  refine cx_of (by decide) (Nat.le_of_ble_eq_true rfl) ?_
  intro p e s m below meth c C hT hW hS ls hl
  have hx0 := C.1
  have hb := C.2.1
  have hl : lv_has ls 2 [(0, .ref (b + o0)), (1, .int x1)] := hl
  unfold fX11_formattedByte at h
  refine lv_iload_n hx0 hb dX11_formattedByte_0 rfl (lv_at hl 1 rfl) ?_
  refine lv_if_lt (tgt := 15) hx0 hb dX11_formattedByte_1 (by decide) (fun c1 => ?_) (fun c1 => ?_)
  · rw [if_pos c1] at h
    cases h
    exact x_throwW (n := 2) (si := 46) C hT (by decide +kernel) xat2 xgd2 xcl2 xin2 rfl hW hS hl.1 ⟨by decide, Nat.le_of_ble_eq_true rfl⟩ ⟨by decide, by decide⟩ (by decide) (by decide) dX11_formattedByte_15 dX11_formattedByte_18 dX11_formattedByte_19 dX11_formattedByte_22 dX11_formattedByte_25
  · rw [if_neg c1] at h
    refine lv_iload_n hx0 hb dX11_formattedByte_4 rfl (lv_at hl 1 rfl) ?_
    refine lv_aload_n hx0 hb dX11_formattedByte_5 rfl (lv_at hl 0 rfl) ?_
    refine gtX11_2 (k := o0) C hW ho0 flX11_28 dX11_formattedByte_6 ?_
    obtain ⟨v9, h9, h⟩ := bnd h
    try dsimp only at h
    refine w_callV (L := (LC E b)) (k := o0 + 35) (As := []) (rest := [.int x1]) C hW hS (kdlt (chX11_2 ho0) (by decide)) (ccX8 (chX11_2 ho0)) kcX8 (mX8_size (o0 + 35) (chX11_2 ho0) σ v9 h9) cwX8_size cvX8_size rfl mlX11_107 ⟨by decide, by decide⟩ rfl hl.1 (Nat.le_of_ble_eq_true rfl) ⟨by decide, by decide⟩ dX11_formattedByte_9 rfl (fun H locs hW hS => ?_)
    refine lv_icmp_lt (tgt := 26) hx0 hb dX11_formattedByte_12 (by decide) (fun c12 => ?_) (fun c12 => ?_)
    · rw [if_pos c12] at h
      refine lv_aload_n hx0 hb dX11_formattedByte_26 rfl (lv_at hl 0 rfl) ?_
      refine gtX11_2 (k := o0) C hW ho0 flX11_28 dX11_formattedByte_27 ?_
      refine lv_iload_n hx0 hb dX11_formattedByte_30 rfl (lv_at hl 1 rfl) ?_
      obtain ⟨v31, h31, h⟩ := bnd h
      try dsimp only at h
      refine w_callV (L := (LC E b)) (k := o0 + 35) (As := [.int x1]) (rest := []) C hW hS (kdlt (chX11_2 ho0) (by decide)) (ccX8 (chX11_2 ho0)) kcX8 (mX8_byteAt (o0 + 35) x1 (chX11_2 ho0) σ v31 h31) cwX8_byteAt cvX8_byteAt rfl mlX11_356 ⟨by decide, by decide⟩ rfl hl.1 (Nat.le_of_ble_eq_true rfl) ⟨by decide, by decide⟩ dX11_formattedByte_31 rfl (fun H locs hW hS => ?_)
      cases h
      exact x_iret C hW hS (by decide) (by decide) dX11_formattedByte_34
    · rw [if_neg c12] at h
      cases h
      exact x_throwW (n := 2) (si := 46) C hT (by decide +kernel) xat2 xgd2 xcl2 xin2 rfl hW hS hl.1 ⟨by decide, Nat.le_of_ble_eq_true rfl⟩ ⟨by decide, by decide⟩ (by decide) (by decide) dX11_formattedByte_15 dX11_formattedByte_18 dX11_formattedByte_19 dX11_formattedByte_22 dX11_formattedByte_25
def fX11_placeCount (o0 : Nat) (σ : Mem) : Option (Int32 × Mem) :=
  (fX2_follow (o0 + 360) (o0 + 42) σ).bind fun v8 => (fX2_size (o0 + 360) v8).bind fun v15 => some (v15, v8)
set_option maxRecDepth 100000 in
set_option maxHeartbeats 4000000 in
theorem mX11_placeCount {l : Launch} {E : Ev} {b : Nat} (o0 : Nat) (ho0 : kd o0 = 11) (σ : Mem) (r : (Int32 × Mem)) (h : fX11_placeCount o0 σ = some r) : Met l yX11_placeCount (tw yX11_placeCount cX11_placeCount 1 (some .int)) { frames := 4, cells := 0, slots := 0, locals := 93 } (va_Pc [.ref (b + o0)] (Pr l E (LC E b) σ)) (Qz E (LC E b) (some (.int r.1)) r.2) 0 0 (La (LC E b)) := by
  refine ct_of (by decide) (Nat.le_of_ble_eq_true rfl) ?_
  intro p e s m below meth c C hW hS ls hl
  have hx0 := C.1
  have hb := C.2.1
  have hl : lv_has ls 1 [(0, .ref (b + o0))] := hl
  unfold fX11_placeCount at h
  refine lv_aload_n hx0 hb dX11_placeCount_0 rfl (lv_at hl 0 rfl) ?_
  refine gtX11_14 (k := o0) C hW ho0 flX11_87 dX11_placeCount_1 ?_
  refine lv_aload_n hx0 hb dX11_placeCount_4 rfl (lv_at hl 0 rfl) ?_
  refine gtX11_6 (k := o0) C hW ho0 flX11_48 dX11_placeCount_5 ?_
  obtain ⟨v8, h8, h⟩ := bnd h
  try dsimp only at h
  refine w_callV (L := (LC E b)) (k := o0 + 360) (As := [.ref (b + (o0 + 42))]) (rest := []) C hW hS (kdlt (chX11_14 ho0) (by decide)) (ccX2 (chX11_14 ho0)) kcX2 (mX2_follow (o0 + 360) (o0 + 42) (chX11_14 ho0) (chX11_6 ho0) σ v8 h8) cwX2_follow cvX2_follow rfl mlX11_359 ⟨by decide, by decide⟩ rfl hl.1 (Nat.le_of_ble_eq_true rfl) ⟨by decide, by decide⟩ dX11_placeCount_8 rfl (fun H locs hW hS => ?_)
  refine lv_aload_n hx0 hb dX11_placeCount_11 rfl (lv_at hl 0 rfl) ?_
  refine gtX11_14 (k := o0) C hW ho0 flX11_87 dX11_placeCount_12 ?_
  obtain ⟨v15, h15, h⟩ := bnd h
  try dsimp only at h
  refine w_callV (L := (LC E b)) (k := o0 + 360) (As := []) (rest := []) C hW hS (kdlt (chX11_14 ho0) (by decide)) (ccX2 (chX11_14 ho0)) kcX2 (mX2_size (o0 + 360) (chX11_14 ho0) v8 v15 h15) cwX2_size cvX2_size rfl mlX11_363 ⟨by decide, by decide⟩ rfl hl.1 (Nat.le_of_ble_eq_true rfl) ⟨by decide, by decide⟩ dX11_placeCount_15 rfl (fun H locs hW hS => ?_)
  cases h
  exact w_iret C hW hS dX11_placeCount_18
def fX11_sideAt (o0 : Nat) (x1 : Int32) (x2 : Int32) (σ : Mem) : Option Rx :=
  (fX11_requirePlace o0 x1 σ).bind fun v2 => match v2.1 with | .inl n2 => some (.inl n2, v2.2) | .inr a2 => if x2 = (0 : Int32) then ((fX2_leafAt (o0 + 360) x1 v2.2).bind fun v41 => some (.inr v41, v2.2)) else (if x2 = (1 : Int32) then ((fX2_leafSideAt (o0 + 360) x1 v2.2).bind fun v50 => some (.inr v50, v2.2)) else (if x2 = (2 : Int32) then ((fX2_slipAt (o0 + 360) x1 v2.2).bind fun v59 => some (.inr v59, v2.2)) else (if x2 = (3 : Int32) then ((fX2_slipSideAt (o0 + 360) x1 v2.2).bind fun v68 => some (.inr v68, v2.2)) else (some (.inl 1, v2.2)))))
set_option maxRecDepth 100000 in
set_option maxHeartbeats 4000000 in
theorem mX11_sideAt {l : Launch} {E : Ev} {b : Nat} (o0 : Nat) (x1 : Int32) (x2 : Int32) (ho0 : kd o0 = 11) (σ : Mem) (r : Rx) (h : fX11_sideAt o0 x1 x2 σ = some r) : vx_Met l yX11_sideAt (tw yX11_sideAt cX11_sideAt 3 (some .int)) { frames := 7, cells := 2, slots := 12, locals := 114 } (va_Pc [.ref (b + o0), .int x1, .int x2] (Pr l E (LC E b) σ)) (Qx E (LC E b) rvI r) (Xx E (LC E b) r) 2 12 (La (LC E b)) := by
  refine cx_of (by decide) (Nat.le_of_ble_eq_true rfl) ?_
  intro p e s m below meth c C hT hW hS ls hl
  have hx0 := C.1
  have hb := C.2.1
  have hl : lv_has ls 3 [(0, .ref (b + o0)), (1, .int x1), (2, .int x2)] := hl
  unfold fX11_sideAt at h
  refine lv_aload_n hx0 hb dX11_sideAt_0 rfl (lv_at hl 0 rfl) ?_
  refine lv_iload_n hx0 hb dX11_sideAt_1 rfl (lv_at hl 1 rfl) ?_
  obtain ⟨v2, h2, h⟩ := bnd h
  try dsimp only at h
  refine x_callV (L := (LC E b)) (k := o0) (As := [.int x1]) (rest := []) C hW hS (kdlt ho0 (by decide)) (ccX11 ho0) kcX11 (mX11_requirePlace o0 x1 ho0 σ v2 h2) cwX11_requirePlace cvX11_requirePlace rfl mlX11_308 ⟨by decide, by decide⟩ rfl hl.1 (Nat.le_of_ble_eq_true rfl) ⟨by decide, by decide⟩ dX11_sideAt_2 rfl (fun n2 e2 H locs q ce hW hS hq hv hc => by rw [e2] at h; (try dsimp only at h); cases h; exact x_out C hT hW hS hq hv hc (by decide) (by decide)) (fun a2 e2 H locs hW hS => ?_)
  rw [e2] at h
  try dsimp only at h
  refine lv_iload_n hx0 hb dX11_sideAt_5 rfl (lv_at hl 2 rfl) ?_
  by_cases q6_0 : x2 = (0 : Int32)
  · rw [if_pos q6_0] at h
    refine lv_tableIn (tgt := 36) hx0 hb dX11_sideAt_6 (by rw [q6_0]; decide) (by rw [q6_0]; decide) (by rw [q6_0]; rfl) (by decide) ?_
    refine lv_aload_n hx0 hb dX11_sideAt_36 rfl (lv_at hl 0 rfl) ?_
    refine gtX11_14 (k := o0) C hW ho0 flX11_87 dX11_sideAt_37 ?_
    refine lv_iload_n hx0 hb dX11_sideAt_40 rfl (lv_at hl 1 rfl) ?_
    obtain ⟨v41, h41, h⟩ := bnd h
    try dsimp only at h
    refine w_callV (L := (LC E b)) (k := o0 + 360) (As := [.int x1]) (rest := []) C hW hS (kdlt (chX11_14 ho0) (by decide)) (ccX2 (chX11_14 ho0)) kcX2 (mX2_leafAt (o0 + 360) x1 (chX11_14 ho0) v2.2 v41 h41) cwX2_leafAt cvX2_leafAt rfl mlX11_364 ⟨by decide, by decide⟩ rfl hl.1 (Nat.le_of_ble_eq_true rfl) ⟨by decide, by decide⟩ dX11_sideAt_41 rfl (fun H locs hW hS => ?_)
    cases h
    exact x_iret C hW hS (by decide) (by decide) dX11_sideAt_44
  rw [if_neg q6_0] at h
  by_cases q6_1 : x2 = (1 : Int32)
  · rw [if_pos q6_1] at h
    refine lv_tableIn (tgt := 45) hx0 hb dX11_sideAt_6 (by rw [q6_1]; decide) (by rw [q6_1]; decide) (by rw [q6_1]; rfl) (by decide) ?_
    refine lv_aload_n hx0 hb dX11_sideAt_45 rfl (lv_at hl 0 rfl) ?_
    refine gtX11_14 (k := o0) C hW ho0 flX11_87 dX11_sideAt_46 ?_
    refine lv_iload_n hx0 hb dX11_sideAt_49 rfl (lv_at hl 1 rfl) ?_
    obtain ⟨v50, h50, h⟩ := bnd h
    try dsimp only at h
    refine w_callV (L := (LC E b)) (k := o0 + 360) (As := [.int x1]) (rest := []) C hW hS (kdlt (chX11_14 ho0) (by decide)) (ccX2 (chX11_14 ho0)) kcX2 (mX2_leafSideAt (o0 + 360) x1 (chX11_14 ho0) v2.2 v50 h50) cwX2_leafSideAt cvX2_leafSideAt rfl mlX11_367 ⟨by decide, by decide⟩ rfl hl.1 (Nat.le_of_ble_eq_true rfl) ⟨by decide, by decide⟩ dX11_sideAt_50 rfl (fun H locs hW hS => ?_)
    cases h
    exact x_iret C hW hS (by decide) (by decide) dX11_sideAt_53
  rw [if_neg q6_1] at h
  by_cases q6_2 : x2 = (2 : Int32)
  · rw [if_pos q6_2] at h
    refine lv_tableIn (tgt := 54) hx0 hb dX11_sideAt_6 (by rw [q6_2]; decide) (by rw [q6_2]; decide) (by rw [q6_2]; rfl) (by decide) ?_
    refine lv_aload_n hx0 hb dX11_sideAt_54 rfl (lv_at hl 0 rfl) ?_
    refine gtX11_14 (k := o0) C hW ho0 flX11_87 dX11_sideAt_55 ?_
    refine lv_iload_n hx0 hb dX11_sideAt_58 rfl (lv_at hl 1 rfl) ?_
    obtain ⟨v59, h59, h⟩ := bnd h
    try dsimp only at h
    refine w_callV (L := (LC E b)) (k := o0 + 360) (As := [.int x1]) (rest := []) C hW hS (kdlt (chX11_14 ho0) (by decide)) (ccX2 (chX11_14 ho0)) kcX2 (mX2_slipAt (o0 + 360) x1 (chX11_14 ho0) v2.2 v59 h59) cwX2_slipAt cvX2_slipAt rfl mlX11_370 ⟨by decide, by decide⟩ rfl hl.1 (Nat.le_of_ble_eq_true rfl) ⟨by decide, by decide⟩ dX11_sideAt_59 rfl (fun H locs hW hS => ?_)
    cases h
    exact x_iret C hW hS (by decide) (by decide) dX11_sideAt_62
  rw [if_neg q6_2] at h
  by_cases q6_3 : x2 = (3 : Int32)
  · rw [if_pos q6_3] at h
    refine lv_tableIn (tgt := 63) hx0 hb dX11_sideAt_6 (by rw [q6_3]; decide) (by rw [q6_3]; decide) (by rw [q6_3]; rfl) (by decide) ?_
    refine lv_aload_n hx0 hb dX11_sideAt_63 rfl (lv_at hl 0 rfl) ?_
    refine gtX11_14 (k := o0) C hW ho0 flX11_87 dX11_sideAt_64 ?_
    refine lv_iload_n hx0 hb dX11_sideAt_67 rfl (lv_at hl 1 rfl) ?_
    obtain ⟨v68, h68, h⟩ := bnd h
    try dsimp only at h
    refine w_callV (L := (LC E b)) (k := o0 + 360) (As := [.int x1]) (rest := []) C hW hS (kdlt (chX11_14 ho0) (by decide)) (ccX2 (chX11_14 ho0)) kcX2 (mX2_slipSideAt (o0 + 360) x1 (chX11_14 ho0) v2.2 v68 h68) cwX2_slipSideAt cvX2_slipSideAt rfl mlX11_373 ⟨by decide, by decide⟩ rfl hl.1 (Nat.le_of_ble_eq_true rfl) ⟨by decide, by decide⟩ dX11_sideAt_68 rfl (fun H locs hW hS => ?_)
    cases h
    exact x_iret C hW hS (by decide) (by decide) dX11_sideAt_71
  rw [if_neg q6_3] at h
  refine lv_tableOut (tgt := 72) hx0 hb dX11_sideAt_6 (tab4 q6_0 q6_1 q6_2 q6_3) (by decide) ?_
  cases h
  exact x_throwW (n := 1) (si := 47) C hT (by decide +kernel) xat1 xgd1 xcl1 xin1 rfl hW hS hl.1 ⟨by decide, Nat.le_of_ble_eq_true rfl⟩ ⟨by decide, by decide⟩ (by decide) (by decide) dX11_sideAt_72 dX11_sideAt_75 dX11_sideAt_76 dX11_sideAt_79 dX11_sideAt_82
def fX11_placeOf (o0 : Nat) (x1 : Int32) (x2 : Int32) (σ : Mem) : Option Rx :=
  (fX11_requireLeaf o0 x1 σ).bind fun v2 => match v2.1 with | .inl n2 => some (.inl n2, v2.2) | .inr a2 => (fX11_requireSide x2 v2.2).bind fun v6 => match v6.1 with | .inl n6 => some (.inl n6, v6.2) | .inr a6 => (fX2_follow (o0 + 360) (o0 + 42) v6.2).bind fun v17 => (fX2_placeOfLeaf (o0 + 360) x1 x2 v17).bind fun v26 => some (.inr v26, v17)
set_option maxRecDepth 100000 in
set_option maxHeartbeats 4000000 in
theorem mX11_placeOf {l : Launch} {E : Ev} {b : Nat} (o0 : Nat) (x1 : Int32) (x2 : Int32) (ho0 : kd o0 = 11) (σ : Mem) (r : Rx) (h : fX11_placeOf o0 x1 x2 σ = some r) : vx_Met l yX11_placeOf (tw yX11_placeOf cX11_placeOf 3 (some .int)) { frames := 7, cells := 2, slots := 12, locals := 111 } (va_Pc [.ref (b + o0), .int x1, .int x2] (Pr l E (LC E b) σ)) (Qx E (LC E b) rvI r) (Xx E (LC E b) r) 2 12 (La (LC E b)) := by
  refine cx_of (by decide) (Nat.le_of_ble_eq_true rfl) ?_
  intro p e s m below meth c C hT hW hS ls hl
  have hx0 := C.1
  have hb := C.2.1
  have hl : lv_has ls 3 [(0, .ref (b + o0)), (1, .int x1), (2, .int x2)] := hl
  unfold fX11_placeOf at h
  refine lv_aload_n hx0 hb dX11_placeOf_0 rfl (lv_at hl 0 rfl) ?_
  refine lv_iload_n hx0 hb dX11_placeOf_1 rfl (lv_at hl 1 rfl) ?_
  obtain ⟨v2, h2, h⟩ := bnd h
  try dsimp only at h
  refine x_callV (L := (LC E b)) (k := o0) (As := [.int x1]) (rest := []) C hW hS (kdlt ho0 (by decide)) (ccX11 ho0) kcX11 (mX11_requireLeaf o0 x1 ho0 σ v2 h2) cwX11_requireLeaf cvX11_requireLeaf rfl mlX11_150 ⟨by decide, by decide⟩ rfl hl.1 (Nat.le_of_ble_eq_true rfl) ⟨by decide, by decide⟩ dX11_placeOf_2 rfl (fun n2 e2 H locs q ce hW hS hq hv hc => by rw [e2] at h; (try dsimp only at h); cases h; exact x_out C hT hW hS hq hv hc (by decide) (by decide)) (fun a2 e2 H locs hW hS => ?_)
  rw [e2] at h
  try dsimp only at h
  refine lv_iload_n hx0 hb dX11_placeOf_5 rfl (lv_at hl 2 rfl) ?_
  obtain ⟨v6, h6, h⟩ := bnd h
  try dsimp only at h
  refine x_callS (L := (LC E b)) (As := [.int x2]) (rest := []) C hW hS (mX11_requireSide x2  v2.2 v6 h6) cwX11_requireSide csX11_requireSide mlX11_180 ⟨by decide, by decide⟩ rfl hl.1 (Nat.le_of_ble_eq_true rfl) ⟨by decide, by decide⟩ dX11_placeOf_6 rfl (fun n6 e6 H locs q ce hW hS hq hv hc => by rw [e6] at h; (try dsimp only at h); cases h; exact x_out C hT hW hS hq hv hc (by decide) (by decide)) (fun a6 e6 H locs hW hS => ?_)
  rw [e6] at h
  try dsimp only at h
  refine lv_aload_n hx0 hb dX11_placeOf_9 rfl (lv_at hl 0 rfl) ?_
  refine gtX11_14 (k := o0) C hW ho0 flX11_87 dX11_placeOf_10 ?_
  refine lv_aload_n hx0 hb dX11_placeOf_13 rfl (lv_at hl 0 rfl) ?_
  refine gtX11_6 (k := o0) C hW ho0 flX11_48 dX11_placeOf_14 ?_
  obtain ⟨v17, h17, h⟩ := bnd h
  try dsimp only at h
  refine w_callV (L := (LC E b)) (k := o0 + 360) (As := [.ref (b + (o0 + 42))]) (rest := []) C hW hS (kdlt (chX11_14 ho0) (by decide)) (ccX2 (chX11_14 ho0)) kcX2 (mX2_follow (o0 + 360) (o0 + 42) (chX11_14 ho0) (chX11_6 ho0) v6.2 v17 h17) cwX2_follow cvX2_follow rfl mlX11_359 ⟨by decide, by decide⟩ rfl hl.1 (Nat.le_of_ble_eq_true rfl) ⟨by decide, by decide⟩ dX11_placeOf_17 rfl (fun H locs hW hS => ?_)
  refine lv_aload_n hx0 hb dX11_placeOf_20 rfl (lv_at hl 0 rfl) ?_
  refine gtX11_14 (k := o0) C hW ho0 flX11_87 dX11_placeOf_21 ?_
  refine lv_iload_n hx0 hb dX11_placeOf_24 rfl (lv_at hl 1 rfl) ?_
  refine lv_iload_n hx0 hb dX11_placeOf_25 rfl (lv_at hl 2 rfl) ?_
  obtain ⟨v26, h26, h⟩ := bnd h
  try dsimp only at h
  refine w_callV (L := (LC E b)) (k := o0 + 360) (As := [.int x1, .int x2]) (rest := []) C hW hS (kdlt (chX11_14 ho0) (by decide)) (ccX2 (chX11_14 ho0)) kcX2 (mX2_placeOfLeaf (o0 + 360) x1 x2 (chX11_14 ho0) v17 v26 h26) cwX2_placeOfLeaf cvX2_placeOfLeaf rfl mlX11_378 ⟨by decide, by decide⟩ rfl hl.1 (Nat.le_of_ble_eq_true rfl) ⟨by decide, by decide⟩ dX11_placeOf_26 rfl (fun H locs hW hS => ?_)
  cases h
  exact x_iret C hW hS (by decide) (by decide) dX11_placeOf_29
def fX11_writeLabelAt (o0 : Nat) (x1 : Int32) (o2 : Nat) (σ : Mem) : Option Mem :=
  (fX8_shortenTo o2 (0 : Int32) σ).bind fun v2 => (fX2_leafAt (o0 + 360) x1 v2).bind fun v14 => (fX2_leafSideAt (o0 + 360) x1 v2).bind fun v22 => (fX1_write (o0 + 53) v14 v22 o2 v2).bind fun v26 => (fX2_slipAt (o0 + 360) x1 v26).bind fun v34 => if v34 = (-1 : Int32) then (some v26) else ((fX8_add o2 (42 : Int32) v26).bind fun v46 => (fX10_rankOfSlip (o0 + 42) v34 v46).bind fun v57 => (fX8_add o2 ((97 : Int32) + v57) v46).bind fun v61 => (fX2_slipSideAt (o0 + 360) x1 v61).bind fun v69 => if v69 = (1 : Int32) then ((fX8_add o2 (118 : Int32) v61).bind fun v79 => some v79) else (some v61))
set_option maxRecDepth 100000 in
set_option maxHeartbeats 4000000 in
theorem mX11_writeLabelAt {l : Launch} {E : Ev} {b : Nat} (o0 : Nat) (x1 : Int32) (o2 : Nat) (ho0 : kd o0 = 11) (ho2 : kd o2 = 8) (σ : Mem) (r : Mem) (h : fX11_writeLabelAt o0 x1 o2 σ = some r) : Met l yX11_writeLabelAt (tw yX11_writeLabelAt cX11_writeLabelAt 4 none) { frames := 4, cells := 0, slots := 0, locals := 96 } (va_Pc [.ref (b + o0), .int x1, .ref (b + o2)] (Pr l E (LC E b) σ)) (Qz E (LC E b) none r) 0 0 (La (LC E b)) := by
  refine ct_of (by decide) (Nat.le_of_ble_eq_true rfl) ?_
  intro p e s m below meth c C hW hS ls hl
  have hx0 := C.1
  have hb := C.2.1
  have hl : lv_has ls 4 [(0, .ref (b + o0)), (1, .int x1), (2, .ref (b + o2))] := hl
  unfold fX11_writeLabelAt at h
  refine lv_aload_n hx0 hb dX11_writeLabelAt_0 rfl (lv_at hl 2 rfl) ?_
  refine lv_iconst (v := (0 : Int32)) hx0 hb dX11_writeLabelAt_1 (by decide) ?_
  obtain ⟨v2, h2, h⟩ := bnd h
  try dsimp only at h
  refine w_callV (L := (LC E b)) (k := o2) (As := [.int (0 : Int32)]) (rest := []) C hW hS (kdlt ho2 (by decide)) (ccX8 ho2) kcX8 (mX8_shortenTo o2 (0 : Int32) ho2 σ v2 h2) cwX8_shortenTo cvX8_shortenTo rfl mlX11_126 ⟨by decide, by decide⟩ rfl hl.1 (Nat.le_of_ble_eq_true rfl) ⟨by decide, by decide⟩ dX11_writeLabelAt_2 rfl (fun H locs hW hS => ?_)
  refine lv_aload_n hx0 hb dX11_writeLabelAt_5 rfl (lv_at hl 0 rfl) ?_
  refine gtX11_7 (k := o0) C hW ho0 flX11_53 dX11_writeLabelAt_6 ?_
  refine lv_aload_n hx0 hb dX11_writeLabelAt_9 rfl (lv_at hl 0 rfl) ?_
  refine gtX11_14 (k := o0) C hW ho0 flX11_87 dX11_writeLabelAt_10 ?_
  refine lv_iload_n hx0 hb dX11_writeLabelAt_13 rfl (lv_at hl 1 rfl) ?_
  obtain ⟨v14, h14, h⟩ := bnd h
  try dsimp only at h
  refine w_callV (L := (LC E b)) (k := o0 + 360) (As := [.int x1]) (rest := [.ref (b + (o0 + 53))]) C hW hS (kdlt (chX11_14 ho0) (by decide)) (ccX2 (chX11_14 ho0)) kcX2 (mX2_leafAt (o0 + 360) x1 (chX11_14 ho0) v2 v14 h14) cwX2_leafAt cvX2_leafAt rfl mlX11_364 ⟨by decide, by decide⟩ rfl hl.1 (Nat.le_of_ble_eq_true rfl) ⟨by decide, by decide⟩ dX11_writeLabelAt_14 rfl (fun H locs hW hS => ?_)
  refine lv_aload_n hx0 hb dX11_writeLabelAt_17 rfl (lv_at hl 0 rfl) ?_
  refine gtX11_14 (k := o0) C hW ho0 flX11_87 dX11_writeLabelAt_18 ?_
  refine lv_iload_n hx0 hb dX11_writeLabelAt_21 rfl (lv_at hl 1 rfl) ?_
  obtain ⟨v22, h22, h⟩ := bnd h
  try dsimp only at h
  refine w_callV (L := (LC E b)) (k := o0 + 360) (As := [.int x1]) (rest := [.int v14, .ref (b + (o0 + 53))]) C hW hS (kdlt (chX11_14 ho0) (by decide)) (ccX2 (chX11_14 ho0)) kcX2 (mX2_leafSideAt (o0 + 360) x1 (chX11_14 ho0) v2 v22 h22) cwX2_leafSideAt cvX2_leafSideAt rfl mlX11_367 ⟨by decide, by decide⟩ rfl hl.1 (Nat.le_of_ble_eq_true rfl) ⟨by decide, by decide⟩ dX11_writeLabelAt_22 rfl (fun H locs hW hS => ?_)
  refine lv_aload_n hx0 hb dX11_writeLabelAt_25 rfl (lv_at hl 2 rfl) ?_
  obtain ⟨v26, h26, h⟩ := bnd h
  try dsimp only at h
  refine w_callV (L := (LC E b)) (k := o0 + 53) (As := [.int v14, .int v22, .ref (b + o2)]) (rest := []) C hW hS (kdlt (chX11_7 ho0) (by decide)) (ccX1 (chX11_7 ho0)) kcX1 (mX1_write (o0 + 53) v14 v22 o2 (chX11_7 ho0) ho2 v2 v26 h26) cwX1_write cvX1_write rfl mlX11_385 ⟨by decide, by decide⟩ rfl hl.1 (Nat.le_of_ble_eq_true rfl) ⟨by decide, by decide⟩ dX11_writeLabelAt_26 rfl (fun H locs hW hS => ?_)
  refine lv_aload_n hx0 hb dX11_writeLabelAt_29 rfl (lv_at hl 0 rfl) ?_
  refine gtX11_14 (k := o0) C hW ho0 flX11_87 dX11_writeLabelAt_30 ?_
  refine lv_iload_n hx0 hb dX11_writeLabelAt_33 rfl (lv_at hl 1 rfl) ?_
  obtain ⟨v34, h34, h⟩ := bnd h
  try dsimp only at h
  refine w_callV (L := (LC E b)) (k := o0 + 360) (As := [.int x1]) (rest := []) C hW hS (kdlt (chX11_14 ho0) (by decide)) (ccX2 (chX11_14 ho0)) kcX2 (mX2_slipAt (o0 + 360) x1 (chX11_14 ho0) v26 v34 h34) cwX2_slipAt cvX2_slipAt rfl mlX11_370 ⟨by decide, by decide⟩ rfl hl.1 (Nat.le_of_ble_eq_true rfl) ⟨by decide, by decide⟩ dX11_writeLabelAt_34 rfl (fun H locs hW hS => ?_)
  refine lv_istore_n (lv' := [(3, .int v34), (0, .ref (b + o0)), (1, .int x1), (2, .ref (b + o2))]) hx0 hb dX11_writeLabelAt_37 rfl hl (by decide) rfl (fun ls hl => ?_)
  refine lv_iload_n hx0 hb dX11_writeLabelAt_38 rfl (lv_at hl 0 rfl) ?_
  refine lv_iconst (v := (-1 : Int32)) hx0 hb dX11_writeLabelAt_39 (by decide) ?_
  refine lv_icmp_eq (tgt := 82) hx0 hb dX11_writeLabelAt_40 (by decide) (fun c40 => ?_) (fun c40 => ?_)
  · rw [if_pos c40] at h
    cases h
    exact w_vret C hW hS dX11_writeLabelAt_82
  · rw [if_neg c40] at h
    refine lv_aload_n hx0 hb dX11_writeLabelAt_43 rfl (lv_at hl 3 rfl) ?_
    refine lv_bipush (v := (42 : Int32)) hx0 hb dX11_writeLabelAt_44 (by decide) ?_
    obtain ⟨v46, h46, h⟩ := bnd h
    try dsimp only at h
    refine w_callV (L := (LC E b)) (k := o2) (As := [.int (42 : Int32)]) (rest := []) C hW hS (kdlt ho2 (by decide)) (ccX8 ho2) kcX8 (mX8_add o2 (42 : Int32) ho2 v26 v46 h46) cwX8_add cvX8_add rfl mlX11_147 ⟨by decide, by decide⟩ rfl hl.1 (Nat.le_of_ble_eq_true rfl) ⟨by decide, by decide⟩ dX11_writeLabelAt_46 rfl (fun H locs hW hS => ?_)
    refine lv_aload_n hx0 hb dX11_writeLabelAt_49 rfl (lv_at hl 3 rfl) ?_
    refine lv_bipush (v := (97 : Int32)) hx0 hb dX11_writeLabelAt_50 (by decide) ?_
    refine lv_aload_n hx0 hb dX11_writeLabelAt_52 rfl (lv_at hl 1 rfl) ?_
    refine gtX11_6 (k := o0) C hW ho0 flX11_48 dX11_writeLabelAt_53 ?_
    refine lv_iload_n hx0 hb dX11_writeLabelAt_56 rfl (lv_at hl 0 rfl) ?_
    obtain ⟨v57, h57, h⟩ := bnd h
    try dsimp only at h
    refine w_callV (L := (LC E b)) (k := o0 + 42) (As := [.int v34]) (rest := [.int (97 : Int32), .ref (b + o2)]) C hW hS (kdlt (chX11_6 ho0) (by decide)) (ccX10 (chX11_6 ho0)) kcX10 (mX10_rankOfSlip (o0 + 42) v34 (chX11_6 ho0) v46 v57 h57) cwX10_rankOfSlip cvX10_rankOfSlip rfl mlX11_396 ⟨by decide, by decide⟩ rfl hl.1 (Nat.le_of_ble_eq_true rfl) ⟨by decide, by decide⟩ dX11_writeLabelAt_57 rfl (fun H locs hW hS => ?_)
    refine lv_iadd hx0 hb dX11_writeLabelAt_60 ?_
    obtain ⟨v61, h61, h⟩ := bnd h
    try dsimp only at h
    refine w_callV (L := (LC E b)) (k := o2) (As := [.int ((97 : Int32) + v57)]) (rest := []) C hW hS (kdlt ho2 (by decide)) (ccX8 ho2) kcX8 (mX8_add o2 ((97 : Int32) + v57) ho2 v46 v61 h61) cwX8_add cvX8_add rfl mlX11_147 ⟨by decide, by decide⟩ rfl hl.1 (Nat.le_of_ble_eq_true rfl) ⟨by decide, by decide⟩ dX11_writeLabelAt_61 rfl (fun H locs hW hS => ?_)
    refine lv_aload_n hx0 hb dX11_writeLabelAt_64 rfl (lv_at hl 1 rfl) ?_
    refine gtX11_14 (k := o0) C hW ho0 flX11_87 dX11_writeLabelAt_65 ?_
    refine lv_iload_n hx0 hb dX11_writeLabelAt_68 rfl (lv_at hl 2 rfl) ?_
    obtain ⟨v69, h69, h⟩ := bnd h
    try dsimp only at h
    refine w_callV (L := (LC E b)) (k := o0 + 360) (As := [.int x1]) (rest := []) C hW hS (kdlt (chX11_14 ho0) (by decide)) (ccX2 (chX11_14 ho0)) kcX2 (mX2_slipSideAt (o0 + 360) x1 (chX11_14 ho0) v61 v69 h69) cwX2_slipSideAt cvX2_slipSideAt rfl mlX11_373 ⟨by decide, by decide⟩ rfl hl.1 (Nat.le_of_ble_eq_true rfl) ⟨by decide, by decide⟩ dX11_writeLabelAt_69 rfl (fun H locs hW hS => ?_)
    refine lv_iconst (v := (1 : Int32)) hx0 hb dX11_writeLabelAt_72 (by decide) ?_
    refine lv_icmp_ne (tgt := 82) hx0 hb dX11_writeLabelAt_73 (by decide) (fun c73 => ?_) (fun c73 => ?_)
    · rw [if_neg c73] at h
      cases h
      exact w_vret C hW hS dX11_writeLabelAt_82
    · rw [if_pos c73] at h
      refine lv_aload_n hx0 hb dX11_writeLabelAt_76 rfl (lv_at hl 3 rfl) ?_
      refine lv_bipush (v := (118 : Int32)) hx0 hb dX11_writeLabelAt_77 (by decide) ?_
      obtain ⟨v79, h79, h⟩ := bnd h
      try dsimp only at h
      refine w_callV (L := (LC E b)) (k := o2) (As := [.int (118 : Int32)]) (rest := []) C hW hS (kdlt ho2 (by decide)) (ccX8 ho2) kcX8 (mX8_add o2 (118 : Int32) ho2 v61 v79 h79) cwX8_add cvX8_add rfl mlX11_147 ⟨by decide, by decide⟩ rfl hl.1 (Nat.le_of_ble_eq_true rfl) ⟨by decide, by decide⟩ dX11_writeLabelAt_79 rfl (fun H locs hW hS => ?_)
      cases h
      exact w_vret C hW hS dX11_writeLabelAt_82
def fX11_formatLabel (o0 : Nat) (x1 : Int32) (σ : Mem) : Option Rx :=
  (fX11_requirePlace o0 x1 σ).bind fun v2 => match v2.1 with | .inl n2 => some (.inl n2, v2.2) | .inr a2 => (fX11_writeLabelAt o0 x1 (o0 + 35) v2.2).bind fun v11 => (fX8_size (o0 + 35) v11).bind fun v18 => some (.inr v18, v11)
set_option maxRecDepth 100000 in
set_option maxHeartbeats 4000000 in
theorem mX11_formatLabel {l : Launch} {E : Ev} {b : Nat} (o0 : Nat) (x1 : Int32) (ho0 : kd o0 = 11) (σ : Mem) (r : Rx) (h : fX11_formatLabel o0 x1 σ = some r) : vx_Met l yX11_formatLabel (tw yX11_formatLabel cX11_formatLabel 2 (some .int)) { frames := 7, cells := 1, slots := 6, locals := 119 } (va_Pc [.ref (b + o0), .int x1] (Pr l E (LC E b) σ)) (Qx E (LC E b) rvI r) (Xx E (LC E b) r) 1 6 (La (LC E b)) := by
  refine cx_of (by decide) (Nat.le_of_ble_eq_true rfl) ?_
  intro p e s m below meth c C hT hW hS ls hl
  have hx0 := C.1
  have hb := C.2.1
  have hl : lv_has ls 2 [(0, .ref (b + o0)), (1, .int x1)] := hl
  unfold fX11_formatLabel at h
  refine lv_aload_n hx0 hb dX11_formatLabel_0 rfl (lv_at hl 0 rfl) ?_
  refine lv_iload_n hx0 hb dX11_formatLabel_1 rfl (lv_at hl 1 rfl) ?_
  obtain ⟨v2, h2, h⟩ := bnd h
  try dsimp only at h
  refine x_callV (L := (LC E b)) (k := o0) (As := [.int x1]) (rest := []) C hW hS (kdlt ho0 (by decide)) (ccX11 ho0) kcX11 (mX11_requirePlace o0 x1 ho0 σ v2 h2) cwX11_requirePlace cvX11_requirePlace rfl mlX11_308 ⟨by decide, by decide⟩ rfl hl.1 (Nat.le_of_ble_eq_true rfl) ⟨by decide, by decide⟩ dX11_formatLabel_2 rfl (fun n2 e2 H locs q ce hW hS hq hv hc => by rw [e2] at h; (try dsimp only at h); cases h; exact x_out C hT hW hS hq hv hc (by decide) (by decide)) (fun a2 e2 H locs hW hS => ?_)
  rw [e2] at h
  try dsimp only at h
  refine lv_aload_n hx0 hb dX11_formatLabel_5 rfl (lv_at hl 0 rfl) ?_
  refine lv_iload_n hx0 hb dX11_formatLabel_6 rfl (lv_at hl 1 rfl) ?_
  refine lv_aload_n hx0 hb dX11_formatLabel_7 rfl (lv_at hl 0 rfl) ?_
  refine gtX11_2 (k := o0) C hW ho0 flX11_28 dX11_formatLabel_8 ?_
  obtain ⟨v11, h11, h⟩ := bnd h
  try dsimp only at h
  refine w_callV (L := (LC E b)) (k := o0) (As := [.int x1, .ref (b + (o0 + 35))]) (rest := []) C hW hS (kdlt ho0 (by decide)) (ccX11 ho0) kcX11 (mX11_writeLabelAt o0 x1 (o0 + 35) ho0 (chX11_2 ho0) v2.2 v11 h11) cwX11_writeLabelAt cvX11_writeLabelAt rfl mlX11_381 ⟨by decide, by decide⟩ rfl hl.1 (Nat.le_of_ble_eq_true rfl) ⟨by decide, by decide⟩ dX11_formatLabel_11 rfl (fun H locs hW hS => ?_)
  refine lv_aload_n hx0 hb dX11_formatLabel_14 rfl (lv_at hl 0 rfl) ?_
  refine gtX11_2 (k := o0) C hW ho0 flX11_28 dX11_formatLabel_15 ?_
  obtain ⟨v18, h18, h⟩ := bnd h
  try dsimp only at h
  refine w_callV (L := (LC E b)) (k := o0 + 35) (As := []) (rest := []) C hW hS (kdlt (chX11_2 ho0) (by decide)) (ccX8 (chX11_2 ho0)) kcX8 (mX8_size (o0 + 35) (chX11_2 ho0) v11 v18 h18) cwX8_size cvX8_size rfl mlX11_107 ⟨by decide, by decide⟩ rfl hl.1 (Nat.le_of_ble_eq_true rfl) ⟨by decide, by decide⟩ dX11_formatLabel_18 rfl (fun H locs hW hS => ?_)
  cases h
  exact x_iret C hW hS (by decide) (by decide) dX11_formatLabel_21
