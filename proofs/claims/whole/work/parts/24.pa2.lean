/-! PageArchive, by program out of the bytecode -/
def fX11_formatLeafLabel (o0 : Nat) (x1 : Int32) (x2 : Int32) (σ : Mem) : Option Rx :=
  (fX11_requireLeaf o0 x1 σ).bind fun v2 => match v2.1 with | .inl n2 => some (.inl n2, v2.2) | .inr a2 => (fX11_requireSide x2 v2.2).bind fun v6 => match v6.1 with | .inl n6 => some (.inl n6, v6.2) | .inr a6 => (fX8_shortenTo (o0 + 35) (0 : Int32) v6.2).bind fun v14 => (fX1_write (o0 + 53) x1 x2 (o0 + 35) v14).bind fun v27 => (fX8_size (o0 + 35) v27).bind fun v34 => some (.inr v34, v27)
set_option maxRecDepth 100000 in
set_option maxHeartbeats 4000000 in
theorem mX11_formatLeafLabel {l : Launch} {E : Ev} {b : Nat} (o0 : Nat) (x1 : Int32) (x2 : Int32) (ho0 : kd o0 = 11) (σ : Mem) (r : Rx) (h : fX11_formatLeafLabel o0 x1 x2 σ = some r) : vx_Met l yX11_formatLeafLabel (tw yX11_formatLeafLabel cX11_formatLeafLabel 3 (some .int)) { frames := 7, cells := 2, slots := 12, locals := 111 } (va_Pc [.ref (b + o0), .int x1, .int x2] (Pr l E (LC E b) σ)) (Qx E (LC E b) rvI r) (Xx E (LC E b) r) 2 12 (La (LC E b)) := by
  refine cx_of (by decide) (Nat.le_of_ble_eq_true rfl) ?_
  intro p e s m below meth c C hT hW hS ls hl
  have hx0 := C.1
  have hb := C.2.1
  have hl : lv_has ls 3 [(0, .ref (b + o0)), (1, .int x1), (2, .int x2)] := hl
  unfold fX11_formatLeafLabel at h
  refine lv_aload_n hx0 hb dX11_formatLeafLabel_0 rfl (lv_at hl 0 rfl) ?_
  refine lv_iload_n hx0 hb dX11_formatLeafLabel_1 rfl (lv_at hl 1 rfl) ?_
  obtain ⟨v2, h2, h⟩ := bnd h
  try dsimp only at h
  refine x_callV (L := (LC E b)) (k := o0) (As := [.int x1]) (rest := []) C hW hS (kdlt ho0 (by decide)) (ccX11 ho0) kcX11 (mX11_requireLeaf o0 x1 ho0 σ v2 h2) cwX11_requireLeaf cvX11_requireLeaf rfl mlX11_150 ⟨by decide, by decide⟩ rfl hl.1 (Nat.le_of_ble_eq_true rfl) ⟨by decide, by decide⟩ dX11_formatLeafLabel_2 rfl (fun n2 e2 H locs q ce hW hS hq hv hc => by rw [e2] at h; (try dsimp only at h); cases h; exact x_out C hT hW hS hq hv hc (by decide) (by decide)) (fun a2 e2 H locs hW hS => ?_)
  rw [e2] at h
  try dsimp only at h
  refine lv_iload_n hx0 hb dX11_formatLeafLabel_5 rfl (lv_at hl 2 rfl) ?_
  obtain ⟨v6, h6, h⟩ := bnd h
  try dsimp only at h
  refine x_callS (L := (LC E b)) (As := [.int x2]) (rest := []) C hW hS (mX11_requireSide x2  v2.2 v6 h6) cwX11_requireSide csX11_requireSide mlX11_180 ⟨by decide, by decide⟩ rfl hl.1 (Nat.le_of_ble_eq_true rfl) ⟨by decide, by decide⟩ dX11_formatLeafLabel_6 rfl (fun n6 e6 H locs q ce hW hS hq hv hc => by rw [e6] at h; (try dsimp only at h); cases h; exact x_out C hT hW hS hq hv hc (by decide) (by decide)) (fun a6 e6 H locs hW hS => ?_)
  rw [e6] at h
  try dsimp only at h
  refine lv_aload_n hx0 hb dX11_formatLeafLabel_9 rfl (lv_at hl 0 rfl) ?_
  refine gtX11_2 (k := o0) C hW ho0 flX11_28 dX11_formatLeafLabel_10 ?_
  refine lv_iconst (v := (0 : Int32)) hx0 hb dX11_formatLeafLabel_13 (by decide) ?_
  obtain ⟨v14, h14, h⟩ := bnd h
  try dsimp only at h
  refine w_callV (L := (LC E b)) (k := o0 + 35) (As := [.int (0 : Int32)]) (rest := []) C hW hS (kdlt (chX11_2 ho0) (by decide)) (ccX8 (chX11_2 ho0)) kcX8 (mX8_shortenTo (o0 + 35) (0 : Int32) (chX11_2 ho0) v6.2 v14 h14) cwX8_shortenTo cvX8_shortenTo rfl mlX11_126 ⟨by decide, by decide⟩ rfl hl.1 (Nat.le_of_ble_eq_true rfl) ⟨by decide, by decide⟩ dX11_formatLeafLabel_14 rfl (fun H locs hW hS => ?_)
  refine lv_aload_n hx0 hb dX11_formatLeafLabel_17 rfl (lv_at hl 0 rfl) ?_
  refine gtX11_7 (k := o0) C hW ho0 flX11_53 dX11_formatLeafLabel_18 ?_
  refine lv_iload_n hx0 hb dX11_formatLeafLabel_21 rfl (lv_at hl 1 rfl) ?_
  refine lv_iload_n hx0 hb dX11_formatLeafLabel_22 rfl (lv_at hl 2 rfl) ?_
  refine lv_aload_n hx0 hb dX11_formatLeafLabel_23 rfl (lv_at hl 0 rfl) ?_
  refine gtX11_2 (k := o0) C hW ho0 flX11_28 dX11_formatLeafLabel_24 ?_
  obtain ⟨v27, h27, h⟩ := bnd h
  try dsimp only at h
  refine w_callV (L := (LC E b)) (k := o0 + 53) (As := [.int x1, .int x2, .ref (b + (o0 + 35))]) (rest := []) C hW hS (kdlt (chX11_7 ho0) (by decide)) (ccX1 (chX11_7 ho0)) kcX1 (mX1_write (o0 + 53) x1 x2 (o0 + 35) (chX11_7 ho0) (chX11_2 ho0) v14 v27 h27) cwX1_write cvX1_write rfl mlX11_385 ⟨by decide, by decide⟩ rfl hl.1 (Nat.le_of_ble_eq_true rfl) ⟨by decide, by decide⟩ dX11_formatLeafLabel_27 rfl (fun H locs hW hS => ?_)
  refine lv_aload_n hx0 hb dX11_formatLeafLabel_30 rfl (lv_at hl 0 rfl) ?_
  refine gtX11_2 (k := o0) C hW ho0 flX11_28 dX11_formatLeafLabel_31 ?_
  obtain ⟨v34, h34, h⟩ := bnd h
  try dsimp only at h
  refine w_callV (L := (LC E b)) (k := o0 + 35) (As := []) (rest := []) C hW hS (kdlt (chX11_2 ho0) (by decide)) (ccX8 (chX11_2 ho0)) kcX8 (mX8_size (o0 + 35) (chX11_2 ho0) v27 v34 h34) cwX8_size cvX8_size rfl mlX11_107 ⟨by decide, by decide⟩ rfl hl.1 (Nat.le_of_ble_eq_true rfl) ⟨by decide, by decide⟩ dX11_formatLeafLabel_34 rfl (fun H locs hW hS => ?_)
  cases h
  exact x_iret C hW hS (by decide) (by decide) dX11_formatLeafLabel_37
def fX11_requireStartPlace (o0 : Nat) (x1 : Int32) (σ : Mem) : Option Rx :=
  (fX2_follow (o0 + 360) (o0 + 42) σ).bind fun v8 => if x1 < 0 then (some (.inl 1, v8)) else ((fX2_size (o0 + 360) v8).bind fun v20 => if x1 ≤ v20 then (some (.inr 0, v8)) else (some (.inl 1, v8)))
set_option maxRecDepth 100000 in
set_option maxHeartbeats 4000000 in
theorem mX11_requireStartPlace {l : Launch} {E : Ev} {b : Nat} (o0 : Nat) (x1 : Int32) (ho0 : kd o0 = 11) (σ : Mem) (r : Rx) (h : fX11_requireStartPlace o0 x1 σ = some r) : vx_Met l yX11_requireStartPlace (tw yX11_requireStartPlace cX11_requireStartPlace 2 none) { frames := 6, cells := 1, slots := 6, locals := 93 } (va_Pc [.ref (b + o0), .int x1] (Pr l E (LC E b) σ)) (Qx E (LC E b) rvV r) (Xx E (LC E b) r) 1 6 (La (LC E b)) := by
  refine cx_of (by decide) (Nat.le_of_ble_eq_true rfl) ?_
  intro p e s m below meth c C hT hW hS ls hl
  have hx0 := C.1
  have hb := C.2.1
  have hl : lv_has ls 2 [(0, .ref (b + o0)), (1, .int x1)] := hl
  unfold fX11_requireStartPlace at h
  refine lv_aload_n hx0 hb dX11_requireStartPlace_0 rfl (lv_at hl 0 rfl) ?_
  refine gtX11_14 (k := o0) C hW ho0 flX11_87 dX11_requireStartPlace_1 ?_
  refine lv_aload_n hx0 hb dX11_requireStartPlace_4 rfl (lv_at hl 0 rfl) ?_
  refine gtX11_6 (k := o0) C hW ho0 flX11_48 dX11_requireStartPlace_5 ?_
  obtain ⟨v8, h8, h⟩ := bnd h
  try dsimp only at h
  refine w_callV (L := (LC E b)) (k := o0 + 360) (As := [.ref (b + (o0 + 42))]) (rest := []) C hW hS (kdlt (chX11_14 ho0) (by decide)) (ccX2 (chX11_14 ho0)) kcX2 (mX2_follow (o0 + 360) (o0 + 42) (chX11_14 ho0) (chX11_6 ho0) σ v8 h8) cwX2_follow cvX2_follow rfl mlX11_359 ⟨by decide, by decide⟩ rfl hl.1 (Nat.le_of_ble_eq_true rfl) ⟨by decide, by decide⟩ dX11_requireStartPlace_8 rfl (fun H locs hW hS => ?_)
  refine lv_iload_n hx0 hb dX11_requireStartPlace_11 rfl (lv_at hl 1 rfl) ?_
  refine lv_if_lt (tgt := 26) hx0 hb dX11_requireStartPlace_12 (by decide) (fun c12 => ?_) (fun c12 => ?_)
  · rw [if_pos c12] at h
    cases h
    exact x_throwW (n := 1) (si := 48) C hT (by decide +kernel) xat1 xgd1 xcl1 xin1 rfl hW hS hl.1 ⟨by decide, Nat.le_of_ble_eq_true rfl⟩ ⟨by decide, by decide⟩ (by decide) (by decide) dX11_requireStartPlace_26 dX11_requireStartPlace_29 dX11_requireStartPlace_30 dX11_requireStartPlace_33 dX11_requireStartPlace_36
  · rw [if_neg c12] at h
    refine lv_iload_n hx0 hb dX11_requireStartPlace_15 rfl (lv_at hl 1 rfl) ?_
    refine lv_aload_n hx0 hb dX11_requireStartPlace_16 rfl (lv_at hl 0 rfl) ?_
    refine gtX11_14 (k := o0) C hW ho0 flX11_87 dX11_requireStartPlace_17 ?_
    obtain ⟨v20, h20, h⟩ := bnd h
    try dsimp only at h
    refine w_callV (L := (LC E b)) (k := o0 + 360) (As := []) (rest := [.int x1]) C hW hS (kdlt (chX11_14 ho0) (by decide)) (ccX2 (chX11_14 ho0)) kcX2 (mX2_size (o0 + 360) (chX11_14 ho0) v8 v20 h20) cwX2_size cvX2_size rfl mlX11_363 ⟨by decide, by decide⟩ rfl hl.1 (Nat.le_of_ble_eq_true rfl) ⟨by decide, by decide⟩ dX11_requireStartPlace_20 rfl (fun H locs hW hS => ?_)
    refine lv_icmp_le (tgt := 37) hx0 hb dX11_requireStartPlace_23 (by decide) (fun c23 => ?_) (fun c23 => ?_)
    · rw [if_pos c23] at h
      cases h
      exact x_vret C hW hS (by decide) (by decide) dX11_requireStartPlace_37
    · rw [if_neg c23] at h
      cases h
      exact x_throwW (n := 1) (si := 48) C hT (by decide +kernel) xat1 xgd1 xcl1 xin1 rfl hW hS hl.1 ⟨by decide, Nat.le_of_ble_eq_true rfl⟩ ⟨by decide, by decide⟩ (by decide) (by decide) dX11_requireStartPlace_26 dX11_requireStartPlace_29 dX11_requireStartPlace_30 dX11_requireStartPlace_33 dX11_requireStartPlace_36
def fX11_findLabel_l7 (o0 : Nat) : Nat → Int32 → Mem → Option (Rx ⊕ (Int32 × Mem))
  | 0, _, _ => none
  | n + 1, x2, σ => (fX2_size (o0 + 360) σ).bind fun v12 => if v12 ≤ x2 then (some (.inr (x2, σ))) else ((fX11_writeLabelAt o0 x2 (o0 + 39) σ).bind fun v24 => (fX8_hasSameBytes (o0 + 39) (o0 + 33) v24).bind fun v35 => if v35 = 0 then (fX11_findLabel_l7 o0 n (x2 + (1 : Int32)) v24) else (some (.inl (.inr x2, v24))))
set_option maxRecDepth 100000 in
set_option maxHeartbeats 4000000 in
theorem bX11_findLabel_l7 {p : Program} {l : Launch} {e : Env} {s : State} {m : MethodId} {args : Array Value} {below : List Frame} {meth : Method} {c : Code} {E : Ev} {b : Nat} (C : Cx p l s m args meth c E cX11_findLabel 3 RX11 (some .int)) (hT : ∀ x ∈ c.exceptionTable.toList, False) (o0 : Nat) (ho0 : kd o0 = 11) (r0 : Rx) {q0 : Rx ⊕ (Int32 × Mem)} (hr : ∀ r, q0 = .inl r → r = r0) (hx : ∀ q, q0 = .inr q → ∀ H locs ls, Wd E (LC E b) q.2 H → va_S (La (LC E b)) s.heap H locs → lv_has ls 3 [(0, .ref (b + o0)), (2, .int q.1)] → W p l e { frames := 7, cells := 1, slots := 6, locals := 119 } s m args below meth c H locs 1 6 (vx_MQ below (Qx E (LC E b) rvI r0) (Xx E (LC E b) r0) args s 1 6 (La (LC E b))) (F0 m 49 ls [])) : ∀ (n : Nat) (x2 : Int32) (σ : Mem), fX11_findLabel_l7 o0 n x2 σ = some q0 → ∀ (H : Heap) (locs : List Loc) (ls : Array Slot), Wd E (LC E b) σ H → va_S (La (LC E b)) s.heap H locs → lv_has ls 3 [(0, .ref (b + o0)), (2, .int x2)] → W p l e { frames := 7, cells := 1, slots := 6, locals := 119 } s m args below meth c H locs 1 6 (vx_MQ below (Qx E (LC E b) rvI r0) (Xx E (LC E b) r0) args s 1 6 (La (LC E b))) (F0 m 7 ls []) := by
  have hx0 := C.1
  have hb := C.2.1
  intro n
  induction n with
  | zero => intro x2 σ h; simp [fX11_findLabel_l7] at h
  | succ n ih =>
    intro x2 σ h H locs ls hW hS hl
    unfold fX11_findLabel_l7 at h
    refine lv_iload_n hx0 hb dX11_findLabel_7 rfl (lv_at hl 1 rfl) ?_
    refine lv_aload_n hx0 hb dX11_findLabel_8 rfl (lv_at hl 0 rfl) ?_
    refine gtX11_14 (k := o0) C hW ho0 flX11_87 dX11_findLabel_9 ?_
    obtain ⟨v12, h12, h⟩ := bnd h
    try dsimp only at h
    refine w_callV (L := (LC E b)) (k := o0 + 360) (As := []) (rest := [.int x2]) C hW hS (kdlt (chX11_14 ho0) (by decide)) (ccX2 (chX11_14 ho0)) kcX2 (mX2_size (o0 + 360) (chX11_14 ho0) σ v12 h12) cwX2_size cvX2_size rfl mlX11_363 ⟨by decide, by decide⟩ rfl hl.1 (Nat.le_of_ble_eq_true rfl) ⟨by decide, by decide⟩ dX11_findLabel_12 rfl (fun H locs hW hS => ?_)
    refine lv_icmp_ge (tgt := 49) hx0 hb dX11_findLabel_15 (by decide) (fun c15 => ?_) (fun c15 => ?_)
    · rw [if_pos c15] at h
      cases h
      exact hx _ rfl _ _ _ hW hS (lv_sub hl [0, 1] rfl)
    · rw [if_neg c15] at h
      refine lv_aload_n hx0 hb dX11_findLabel_18 rfl (lv_at hl 0 rfl) ?_
      refine lv_iload_n hx0 hb dX11_findLabel_19 rfl (lv_at hl 1 rfl) ?_
      refine lv_aload_n hx0 hb dX11_findLabel_20 rfl (lv_at hl 0 rfl) ?_
      refine gtX11_4 (k := o0) C hW ho0 flX11_34 dX11_findLabel_21 ?_
      obtain ⟨v24, h24, h⟩ := bnd h
      try dsimp only at h
      refine w_callV (L := (LC E b)) (k := o0) (As := [.int x2, .ref (b + (o0 + 39))]) (rest := []) C hW hS (kdlt ho0 (by decide)) (ccX11 ho0) kcX11 (mX11_writeLabelAt o0 x2 (o0 + 39) ho0 (chX11_4 ho0) σ v24 h24) cwX11_writeLabelAt cvX11_writeLabelAt rfl mlX11_381 ⟨by decide, by decide⟩ rfl hl.1 (Nat.le_of_ble_eq_true rfl) ⟨by decide, by decide⟩ dX11_findLabel_24 rfl (fun H locs hW hS => ?_)
      refine lv_aload_n hx0 hb dX11_findLabel_27 rfl (lv_at hl 0 rfl) ?_
      refine gtX11_4 (k := o0) C hW ho0 flX11_34 dX11_findLabel_28 ?_
      refine lv_aload_n hx0 hb dX11_findLabel_31 rfl (lv_at hl 0 rfl) ?_
      refine gtX11_1 (k := o0) C hW ho0 flX11_20 dX11_findLabel_32 ?_
      obtain ⟨v35, h35, h⟩ := bnd h
      try dsimp only at h
      refine w_callV (L := (LC E b)) (k := o0 + 39) (As := [.ref (b + (o0 + 33))]) (rest := []) C hW hS (kdlt (chX11_4 ho0) (by decide)) (ccX8 (chX11_4 ho0)) kcX8 (mX8_hasSameBytes (o0 + 39) (o0 + 33) (chX11_4 ho0) (chX11_1 ho0) v24 v35 h35) cwX8_hasSameBytes cvX8_hasSameBytes rfl mlX11_392 ⟨by decide, by decide⟩ rfl hl.1 (Nat.le_of_ble_eq_true rfl) ⟨by decide, by decide⟩ dX11_findLabel_35 rfl (fun H locs hW hS => ?_)
      refine lv_if_eq (tgt := 43) hx0 hb dX11_findLabel_38 (by decide) (fun c38 => ?_) (fun c38 => ?_)
      · rw [if_pos c38] at h
        refine lv_iinc (v := x2 + (1 : Int32)) (lv' := [(2, .int (x2 + (1 : Int32))), (0, .ref (b + o0))]) hx0 hb dX11_findLabel_43 hl (k := 1) rfl rfl (by decide) rfl (fun ls hl => ?_)
        refine lv_goto (tgt := 7) hx0 hb dX11_findLabel_46 (by decide) ?_
        exact ih (x2 + (1 : Int32)) v24 h _ _ _ hW hS (lv_sub hl [1, 0] rfl)
      · rw [if_neg c38] at h
        refine lv_iload_n hx0 hb dX11_findLabel_41 rfl (lv_at hl 1 rfl) ?_
        cases h
        cases hr _ rfl
        exact x_iret C hW hS (by decide) (by decide) dX11_findLabel_42
def fX11_findLabel (o0 : Nat) (x1 : Int32) (σ : Mem) : Option Rx :=
  (fX11_requireStartPlace o0 x1 σ).bind fun v2 => match v2.1 with | .inl n2 => some (.inl n2, v2.2) | .inr a2 => (fX11_findLabel_l7 o0 FU x1 v2.2).bind fun q7 => match q7 with | .inl r => some r | .inr q7 => some (.inr (-1 : Int32), q7.2)
set_option maxRecDepth 100000 in
set_option maxHeartbeats 4000000 in
theorem mX11_findLabel {l : Launch} {E : Ev} {b : Nat} (o0 : Nat) (x1 : Int32) (ho0 : kd o0 = 11) (σ : Mem) (r : Rx) (h : fX11_findLabel o0 x1 σ = some r) : vx_Met l yX11_findLabel (tw yX11_findLabel cX11_findLabel 3 (some .int)) { frames := 7, cells := 1, slots := 6, locals := 119 } (va_Pc [.ref (b + o0), .int x1] (Pr l E (LC E b) σ)) (Qx E (LC E b) rvI r) (Xx E (LC E b) r) 1 6 (La (LC E b)) := by
  refine cx_of (by decide) (Nat.le_of_ble_eq_true rfl) ?_
  intro p e s m below meth c C hT hW hS ls hl
  have hx0 := C.1
  have hb := C.2.1
  have hl : lv_has ls 3 [(0, .ref (b + o0)), (1, .int x1)] := hl
  unfold fX11_findLabel at h
  refine lv_aload_n hx0 hb dX11_findLabel_0 rfl (lv_at hl 0 rfl) ?_
  refine lv_iload_n hx0 hb dX11_findLabel_1 rfl (lv_at hl 1 rfl) ?_
  obtain ⟨v2, h2, h⟩ := bnd h
  try dsimp only at h
  refine x_callV (L := (LC E b)) (k := o0) (As := [.int x1]) (rest := []) C hW hS (kdlt ho0 (by decide)) (ccX11 ho0) kcX11 (mX11_requireStartPlace o0 x1 ho0 σ v2 h2) cwX11_requireStartPlace cvX11_requireStartPlace rfl mlX11_389 ⟨by decide, by decide⟩ rfl hl.1 (Nat.le_of_ble_eq_true rfl) ⟨by decide, by decide⟩ dX11_findLabel_2 rfl (fun n2 e2 H locs q ce hW hS hq hv hc => by rw [e2] at h; (try dsimp only at h); cases h; exact x_out C hT hW hS hq hv hc (by decide) (by decide)) (fun a2 e2 H locs hW hS => ?_)
  rw [e2] at h
  try dsimp only at h
  refine lv_iload_n hx0 hb dX11_findLabel_5 rfl (lv_at hl 1 rfl) ?_
  refine lv_istore_n (lv' := [(2, .int x1), (0, .ref (b + o0)), (1, .int x1)]) hx0 hb dX11_findLabel_6 rfl hl (by decide) rfl (fun ls hl => ?_)
  obtain ⟨q7, h7, h⟩ := bnd h
  refine bX11_findLabel_l7 C hT o0 ho0 r (q0 := q7) ?_ ?_ FU x1 v2.2 h7 _ _ _ hW hS (lv_sub hl [1, 0] rfl)
  · intro r1 hq; subst hq; (try dsimp only at h); exact Option.some.inj h
  · intro q7 hq H locs ls hW hS hl
    subst hq; try dsimp only at h
    refine lv_iconst (v := (-1 : Int32)) hx0 hb dX11_findLabel_49 (by decide) ?_
    cases h
    exact x_iret C hW hS (by decide) (by decide) dX11_findLabel_50
def fX11_sameLabels_l18 (o0 : Nat) : Nat → Int32 → Int32 → Mem → Option (Int32 × Int32 × Mem)
  | 0, _, _, _ => none
  | n + 1, x2, x3, σ => (fX2_size (o0 + 360) σ).bind fun v23 => if v23 ≤ x3 then (some (x2, x3, σ)) else ((fX11_writeLabelAt o0 x3 (o0 + 39) σ).bind fun v35 => (fX8_hasSameBytes (o0 + 39) (o0 + 37) v35).bind fun v46 => if v46 = 0 then (fX11_sameLabels_l18 o0 n x2 (x3 + (1 : Int32)) v35) else (fX11_sameLabels_l18 o0 n (x2 + (1 : Int32)) (x3 + (1 : Int32)) v35))
set_option maxRecDepth 100000 in
set_option maxHeartbeats 4000000 in
theorem bX11_sameLabels_l18 {p : Program} {l : Launch} {e : Env} {s : State} {m : MethodId} {args : Array Value} {below : List Frame} {meth : Method} {c : Code} {E : Ev} {b : Nat} (C : Cx p l s m args meth c E cX11_sameLabels 4 RX11 (some .int)) (hT : ∀ x ∈ c.exceptionTable.toList, False) (o0 : Nat) (ho0 : kd o0 = 11) {Qf : State → Prop} {q : Int32 × Int32 × Mem} (hx : ∀ H locs ls, Wd E (LC E b) q.2.2 H → va_S (La (LC E b)) s.heap H locs → lv_has ls 4 [(0, .ref (b + o0)), (2, .int q.1), (3, .int q.2.1)] → W p l e { frames := 7, cells := 1, slots := 6, locals := 119 } s m args below meth c H locs 1 6 Qf (F0 m 61 ls [])) : ∀ (n : Nat) (x2 : Int32) (x3 : Int32) (σ : Mem), fX11_sameLabels_l18 o0 n x2 x3 σ = some q → ∀ (H : Heap) (locs : List Loc) (ls : Array Slot), Wd E (LC E b) σ H → va_S (La (LC E b)) s.heap H locs → lv_has ls 4 [(0, .ref (b + o0)), (2, .int x2), (3, .int x3)] → W p l e { frames := 7, cells := 1, slots := 6, locals := 119 } s m args below meth c H locs 1 6 Qf (F0 m 18 ls []) := by
  have hx0 := C.1
  have hb := C.2.1
  intro n
  induction n with
  | zero => intro x2 x3 σ h; simp [fX11_sameLabels_l18] at h
  | succ n ih =>
    intro x2 x3 σ h H locs ls hW hS hl
    unfold fX11_sameLabels_l18 at h
    refine lv_iload_n hx0 hb dX11_sameLabels_18 rfl (lv_at hl 2 rfl) ?_
    refine lv_aload_n hx0 hb dX11_sameLabels_19 rfl (lv_at hl 0 rfl) ?_
    refine gtX11_14 (k := o0) C hW ho0 flX11_87 dX11_sameLabels_20 ?_
    obtain ⟨v23, h23, h⟩ := bnd h
    try dsimp only at h
    refine w_callV (L := (LC E b)) (k := o0 + 360) (As := []) (rest := [.int x3]) C hW hS (kdlt (chX11_14 ho0) (by decide)) (ccX2 (chX11_14 ho0)) kcX2 (mX2_size (o0 + 360) (chX11_14 ho0) σ v23 h23) cwX2_size cvX2_size rfl mlX11_363 ⟨by decide, by decide⟩ rfl hl.1 (Nat.le_of_ble_eq_true rfl) ⟨by decide, by decide⟩ dX11_sameLabels_23 rfl (fun H locs hW hS => ?_)
    refine lv_icmp_ge (tgt := 61) hx0 hb dX11_sameLabels_26 (by decide) (fun c26 => ?_) (fun c26 => ?_)
    · rw [if_pos c26] at h
      cases h
      exact hx _ _ _ hW hS (lv_sub hl [0, 1, 2] rfl)
    · rw [if_neg c26] at h
      refine lv_aload_n hx0 hb dX11_sameLabels_29 rfl (lv_at hl 0 rfl) ?_
      refine lv_iload_n hx0 hb dX11_sameLabels_30 rfl (lv_at hl 2 rfl) ?_
      refine lv_aload_n hx0 hb dX11_sameLabels_31 rfl (lv_at hl 0 rfl) ?_
      refine gtX11_4 (k := o0) C hW ho0 flX11_34 dX11_sameLabels_32 ?_
      obtain ⟨v35, h35, h⟩ := bnd h
      try dsimp only at h
      refine w_callV (L := (LC E b)) (k := o0) (As := [.int x3, .ref (b + (o0 + 39))]) (rest := []) C hW hS (kdlt ho0 (by decide)) (ccX11 ho0) kcX11 (mX11_writeLabelAt o0 x3 (o0 + 39) ho0 (chX11_4 ho0) σ v35 h35) cwX11_writeLabelAt cvX11_writeLabelAt rfl mlX11_381 ⟨by decide, by decide⟩ rfl hl.1 (Nat.le_of_ble_eq_true rfl) ⟨by decide, by decide⟩ dX11_sameLabels_35 rfl (fun H locs hW hS => ?_)
      refine lv_aload_n hx0 hb dX11_sameLabels_38 rfl (lv_at hl 0 rfl) ?_
      refine gtX11_4 (k := o0) C hW ho0 flX11_34 dX11_sameLabels_39 ?_
      refine lv_aload_n hx0 hb dX11_sameLabels_42 rfl (lv_at hl 0 rfl) ?_
      refine gtX11_3 (k := o0) C hW ho0 flX11_31 dX11_sameLabels_43 ?_
      obtain ⟨v46, h46, h⟩ := bnd h
      try dsimp only at h
      refine w_callV (L := (LC E b)) (k := o0 + 39) (As := [.ref (b + (o0 + 37))]) (rest := []) C hW hS (kdlt (chX11_4 ho0) (by decide)) (ccX8 (chX11_4 ho0)) kcX8 (mX8_hasSameBytes (o0 + 39) (o0 + 37) (chX11_4 ho0) (chX11_3 ho0) v35 v46 h46) cwX8_hasSameBytes cvX8_hasSameBytes rfl mlX11_392 ⟨by decide, by decide⟩ rfl hl.1 (Nat.le_of_ble_eq_true rfl) ⟨by decide, by decide⟩ dX11_sameLabels_46 rfl (fun H locs hW hS => ?_)
      refine lv_if_eq (tgt := 55) hx0 hb dX11_sameLabels_49 (by decide) (fun c49 => ?_) (fun c49 => ?_)
      · rw [if_pos c49] at h
        refine lv_iinc (v := x3 + (1 : Int32)) (lv' := [(3, .int (x3 + (1 : Int32))), (0, .ref (b + o0)), (2, .int x2)]) hx0 hb dX11_sameLabels_55 hl (k := 2) rfl rfl (by decide) rfl (fun ls hl => ?_)
        refine lv_goto (tgt := 18) hx0 hb dX11_sameLabels_58 (by decide) ?_
        exact ih x2 (x3 + (1 : Int32)) v35 h _ _ _ hW hS (lv_sub hl [1, 2, 0] rfl)
      · rw [if_neg c49] at h
        refine lv_iinc (v := x2 + (1 : Int32)) (lv' := [(2, .int (x2 + (1 : Int32))), (0, .ref (b + o0)), (3, .int x3)]) hx0 hb dX11_sameLabels_52 hl (k := 1) rfl rfl (by decide) rfl (fun ls hl => ?_)
        refine lv_iinc (v := x3 + (1 : Int32)) (lv' := [(3, .int (x3 + (1 : Int32))), (2, .int (x2 + (1 : Int32))), (0, .ref (b + o0))]) hx0 hb dX11_sameLabels_55 hl (k := 2) rfl rfl (by decide) rfl (fun ls hl => ?_)
        refine lv_goto (tgt := 18) hx0 hb dX11_sameLabels_58 (by decide) ?_
        exact ih (x2 + (1 : Int32)) (x3 + (1 : Int32)) v35 h _ _ _ hW hS (lv_sub hl [2, 1, 0] rfl)
def fX11_sameLabels (o0 : Nat) (x1 : Int32) (σ : Mem) : Option Rx :=
  (fX11_requirePlace o0 x1 σ).bind fun v2 => match v2.1 with | .inl n2 => some (.inl n2, v2.2) | .inr a2 => (fX11_writeLabelAt o0 x1 (o0 + 37) v2.2).bind fun v11 => (fX11_sameLabels_l18 o0 FU (0 : Int32) (0 : Int32) v11).bind fun q18 => some (.inr q18.1, q18.2.2)
set_option maxRecDepth 100000 in
set_option maxHeartbeats 4000000 in
theorem mX11_sameLabels {l : Launch} {E : Ev} {b : Nat} (o0 : Nat) (x1 : Int32) (ho0 : kd o0 = 11) (σ : Mem) (r : Rx) (h : fX11_sameLabels o0 x1 σ = some r) : vx_Met l yX11_sameLabels (tw yX11_sameLabels cX11_sameLabels 4 (some .int)) { frames := 7, cells := 1, slots := 6, locals := 119 } (va_Pc [.ref (b + o0), .int x1] (Pr l E (LC E b) σ)) (Qx E (LC E b) rvI r) (Xx E (LC E b) r) 1 6 (La (LC E b)) := by
  refine cx_of (by decide) (Nat.le_of_ble_eq_true rfl) ?_
  intro p e s m below meth c C hT hW hS ls hl
  have hx0 := C.1
  have hb := C.2.1
  have hl : lv_has ls 4 [(0, .ref (b + o0)), (1, .int x1)] := hl
  unfold fX11_sameLabels at h
  refine lv_aload_n hx0 hb dX11_sameLabels_0 rfl (lv_at hl 0 rfl) ?_
  refine lv_iload_n hx0 hb dX11_sameLabels_1 rfl (lv_at hl 1 rfl) ?_
  obtain ⟨v2, h2, h⟩ := bnd h
  try dsimp only at h
  refine x_callV (L := (LC E b)) (k := o0) (As := [.int x1]) (rest := []) C hW hS (kdlt ho0 (by decide)) (ccX11 ho0) kcX11 (mX11_requirePlace o0 x1 ho0 σ v2 h2) cwX11_requirePlace cvX11_requirePlace rfl mlX11_308 ⟨by decide, by decide⟩ rfl hl.1 (Nat.le_of_ble_eq_true rfl) ⟨by decide, by decide⟩ dX11_sameLabels_2 rfl (fun n2 e2 H locs q ce hW hS hq hv hc => by rw [e2] at h; (try dsimp only at h); cases h; exact x_out C hT hW hS hq hv hc (by decide) (by decide)) (fun a2 e2 H locs hW hS => ?_)
  rw [e2] at h
  try dsimp only at h
  refine lv_aload_n hx0 hb dX11_sameLabels_5 rfl (lv_at hl 0 rfl) ?_
  refine lv_iload_n hx0 hb dX11_sameLabels_6 rfl (lv_at hl 1 rfl) ?_
  refine lv_aload_n hx0 hb dX11_sameLabels_7 rfl (lv_at hl 0 rfl) ?_
  refine gtX11_3 (k := o0) C hW ho0 flX11_31 dX11_sameLabels_8 ?_
  obtain ⟨v11, h11, h⟩ := bnd h
  try dsimp only at h
  refine w_callV (L := (LC E b)) (k := o0) (As := [.int x1, .ref (b + (o0 + 37))]) (rest := []) C hW hS (kdlt ho0 (by decide)) (ccX11 ho0) kcX11 (mX11_writeLabelAt o0 x1 (o0 + 37) ho0 (chX11_3 ho0) v2.2 v11 h11) cwX11_writeLabelAt cvX11_writeLabelAt rfl mlX11_381 ⟨by decide, by decide⟩ rfl hl.1 (Nat.le_of_ble_eq_true rfl) ⟨by decide, by decide⟩ dX11_sameLabels_11 rfl (fun H locs hW hS => ?_)
  refine lv_iconst (v := (0 : Int32)) hx0 hb dX11_sameLabels_14 (by decide) ?_
  refine lv_istore_n (lv' := [(2, .int (0 : Int32)), (0, .ref (b + o0)), (1, .int x1)]) hx0 hb dX11_sameLabels_15 rfl hl (by decide) rfl (fun ls hl => ?_)
  refine lv_iconst (v := (0 : Int32)) hx0 hb dX11_sameLabels_16 (by decide) ?_
  refine lv_istore_n (lv' := [(3, .int (0 : Int32)), (2, .int (0 : Int32)), (0, .ref (b + o0)), (1, .int x1)]) hx0 hb dX11_sameLabels_17 rfl hl (by decide) rfl (fun ls hl => ?_)
  obtain ⟨q18, h18, h⟩ := bnd h
  try dsimp only at h
  refine bX11_sameLabels_l18 C hT o0 ho0 (q := q18) ?_ FU (0 : Int32) (0 : Int32) v11 h18 _ _ _ hW hS (lv_sub hl [2, 1, 0] rfl)
  intro H locs ls hW hS hl
  refine lv_iload_n hx0 hb dX11_sameLabels_61 rfl (lv_at hl 1 rfl) ?_
  cases h
  exact x_iret C hW hS (by decide) (by decide) dX11_sameLabels_62
def fX11_openingCount (o0 : Nat) (σ : Mem) : Option Int32 :=
  (fX10_countOpenings (o0 + 42) σ).bind fun v4 => some v4
set_option maxRecDepth 100000 in
set_option maxHeartbeats 4000000 in
theorem mX11_openingCount {l : Launch} {E : Ev} {b : Nat} (o0 : Nat) (ho0 : kd o0 = 11) (σ : Mem) (r : Int32) (h : fX11_openingCount o0 σ = some r) : Met l yX11_openingCount (tw yX11_openingCount cX11_openingCount 1 (some .int)) { frames := 5, cells := 0, slots := 0, locals := 105 } (va_Pc [.ref (b + o0)] (Pr l E (LC E b) σ)) (Qz E (LC E b) (some (.int r)) σ) 0 0 (La (LC E b)) := by
  refine ct_of (by decide) (Nat.le_of_ble_eq_true rfl) ?_
  intro p e s m below meth c C hW hS ls hl
  have hx0 := C.1
  have hb := C.2.1
  have hl : lv_has ls 1 [(0, .ref (b + o0))] := hl
  unfold fX11_openingCount at h
  refine lv_aload_n hx0 hb dX11_openingCount_0 rfl (lv_at hl 0 rfl) ?_
  refine gtX11_6 (k := o0) C hW ho0 flX11_48 dX11_openingCount_1 ?_
  obtain ⟨v4, h4, h⟩ := bnd h
  try dsimp only at h
  refine w_callV (L := (LC E b)) (k := o0 + 42) (As := []) (rest := []) C hW hS (kdlt (chX11_6 ho0) (by decide)) (ccX10 (chX11_6 ho0)) kcX10 (mX10_countOpenings (o0 + 42) (chX11_6 ho0) σ v4 h4) cwX10_countOpenings cvX10_countOpenings rfl mlX11_300 ⟨by decide, by decide⟩ rfl hl.1 (Nat.le_of_ble_eq_true rfl) ⟨by decide, by decide⟩ dX11_openingCount_4 rfl (fun H locs hW hS => ?_)
  cases h
  exact w_iret C hW hS dX11_openingCount_7
def fX11_countScansOn_l8 (o0 : Nat) (x1 : Int32) : Nat → Int32 → Int32 → Mem → Option (Int32 × Int32)
  | 0, _, _, _ => none
  | n + 1, x2, x3, σ => (fX5_size (o0 + 62) σ).bind fun v13 => if v13 ≤ x3 then (some (x2, x3)) else ((fX4_firstOf (o0 + 373) x3 σ).bind fun v25 => (fX11_openingWith o0 v25 σ).bind fun v28 => if v28 = x1 then (fX11_countScansOn_l8 o0 x1 n (x2 + (1 : Int32)) (x3 + (1 : Int32)) σ) else ((fX4_secondOf (o0 + 373) x3 σ).bind fun v41 => (fX11_openingWith o0 v41 σ).bind fun v44 => if v44 = x1 then (fX11_countScansOn_l8 o0 x1 n (x2 + (1 : Int32)) (x3 + (1 : Int32)) σ) else (fX11_countScansOn_l8 o0 x1 n x2 (x3 + (1 : Int32)) σ)))
set_option maxRecDepth 100000 in
set_option maxHeartbeats 4000000 in
theorem bX11_countScansOn_l8 {p : Program} {l : Launch} {e : Env} {s : State} {m : MethodId} {args : Array Value} {below : List Frame} {meth : Method} {c : Code} {E : Ev} {b : Nat} (C : Cx p l s m args meth c E cX11_countScansOn 4 RX11 (some .int)) (o0 : Nat) (x1 : Int32) (ho0 : kd o0 = 11) (σ : Mem) {Qf : State → Prop} {q : Int32 × Int32} (hx : ∀ H locs ls, Wd E (LC E b) σ H → va_S (La (LC E b)) s.heap H locs → lv_has ls 4 [(0, .ref (b + o0)), (1, .int x1), (2, .int q.1), (3, .int q.2)] → W p l e { frames := 5, cells := 0, slots := 0, locals := 113 } s m args below meth c H locs 0 0 Qf (F0 m 60 ls [])) : ∀ (n : Nat) (x2 : Int32) (x3 : Int32), fX11_countScansOn_l8 o0 x1 n x2 x3 σ = some q → ∀ (H : Heap) (locs : List Loc) (ls : Array Slot), Wd E (LC E b) σ H → va_S (La (LC E b)) s.heap H locs → lv_has ls 4 [(0, .ref (b + o0)), (1, .int x1), (2, .int x2), (3, .int x3)] → W p l e { frames := 5, cells := 0, slots := 0, locals := 113 } s m args below meth c H locs 0 0 Qf (F0 m 8 ls []) := by
  have hx0 := C.1
  have hb := C.2.1
  intro n
  induction n with
  | zero => intro x2 x3 h; simp [fX11_countScansOn_l8] at h
  | succ n ih =>
    intro x2 x3 h H locs ls hW hS hl
    unfold fX11_countScansOn_l8 at h
    refine lv_iload_n hx0 hb dX11_countScansOn_8 rfl (lv_at hl 3 rfl) ?_
    refine lv_aload_n hx0 hb dX11_countScansOn_9 rfl (lv_at hl 0 rfl) ?_
    refine gtX11_8 (k := o0) C hW ho0 flX11_58 dX11_countScansOn_10 ?_
    obtain ⟨v13, h13, h⟩ := bnd h
    try dsimp only at h
    refine w_callV (L := (LC E b)) (k := o0 + 62) (As := []) (rest := [.int x3]) C hW hS (kdlt (chX11_8 ho0) (by decide)) (ccX5 (chX11_8 ho0)) kcX5 (mX5_size (o0 + 62) (chX11_8 ho0) σ v13 h13) cwX5_size cvX5_size rfl mlX11_261 ⟨by decide, by decide⟩ rfl hl.1 (Nat.le_of_ble_eq_true rfl) ⟨by decide, by decide⟩ dX11_countScansOn_13 rfl (fun H locs hW hS => ?_)
    refine lv_icmp_ge (tgt := 60) hx0 hb dX11_countScansOn_16 (by decide) (fun c16 => ?_) (fun c16 => ?_)
    · rw [if_pos c16] at h
      cases h
      exact hx _ _ _ hW hS (lv_sub hl [0, 1, 2, 3] rfl)
    · rw [if_neg c16] at h
      refine lv_aload_n hx0 hb dX11_countScansOn_19 rfl (lv_at hl 0 rfl) ?_
      refine lv_aload_n hx0 hb dX11_countScansOn_20 rfl (lv_at hl 0 rfl) ?_
      refine gtX11_15 (k := o0) C hW ho0 flX11_94 dX11_countScansOn_21 ?_
      refine lv_iload_n hx0 hb dX11_countScansOn_24 rfl (lv_at hl 3 rfl) ?_
      obtain ⟨v25, h25, h⟩ := bnd h
      try dsimp only at h
      refine w_callV (L := (LC E b)) (k := o0 + 373) (As := [.int x3]) (rest := [.ref (b + o0)]) C hW hS (kdlt (chX11_15 ho0) (by decide)) (ccX4 (chX11_15 ho0)) kcX4 (mX4_firstOf (o0 + 373) x3 (chX11_15 ho0) σ v25 h25) cwX4_firstOf cvX4_firstOf rfl mlX11_407 ⟨by decide, by decide⟩ rfl hl.1 (Nat.le_of_ble_eq_true rfl) ⟨by decide, by decide⟩ dX11_countScansOn_25 rfl (fun H locs hW hS => ?_)
      obtain ⟨v28, h28, h⟩ := bnd h
      try dsimp only at h
      refine w_callV (L := (LC E b)) (k := o0) (As := [.int v25]) (rest := []) C hW hS (kdlt ho0 (by decide)) (ccX11 ho0) kcX11 (mX11_openingWith o0 v25 ho0 σ v28 h28) cwX11_openingWith cvX11_openingWith rfl mlX11_311 ⟨by decide, by decide⟩ rfl hl.1 (Nat.le_of_ble_eq_true rfl) ⟨by decide, by decide⟩ dX11_countScansOn_28 rfl (fun H locs hW hS => ?_)
      refine lv_iload_n hx0 hb dX11_countScansOn_31 rfl (lv_at hl 1 rfl) ?_
      refine lv_icmp_eq (tgt := 51) hx0 hb dX11_countScansOn_32 (by decide) (fun c32 => ?_) (fun c32 => ?_)
      · rw [if_pos c32] at h
        refine lv_iinc (v := x2 + (1 : Int32)) (lv' := [(2, .int (x2 + (1 : Int32))), (0, .ref (b + o0)), (1, .int x1), (3, .int x3)]) hx0 hb dX11_countScansOn_51 hl (k := 2) rfl rfl (by decide) rfl (fun ls hl => ?_)
        refine lv_iinc (v := x3 + (1 : Int32)) (lv' := [(3, .int (x3 + (1 : Int32))), (2, .int (x2 + (1 : Int32))), (0, .ref (b + o0)), (1, .int x1)]) hx0 hb dX11_countScansOn_54 hl (k := 3) rfl rfl (by decide) rfl (fun ls hl => ?_)
        refine lv_goto (tgt := 8) hx0 hb dX11_countScansOn_57 (by decide) ?_
        exact ih (x2 + (1 : Int32)) (x3 + (1 : Int32)) h _ _ _ hW hS (lv_sub hl [2, 3, 1, 0] rfl)
      · rw [if_neg c32] at h
        refine lv_aload_n hx0 hb dX11_countScansOn_35 rfl (lv_at hl 0 rfl) ?_
        refine lv_aload_n hx0 hb dX11_countScansOn_36 rfl (lv_at hl 0 rfl) ?_
        refine gtX11_15 (k := o0) C hW ho0 flX11_94 dX11_countScansOn_37 ?_
        refine lv_iload_n hx0 hb dX11_countScansOn_40 rfl (lv_at hl 3 rfl) ?_
        obtain ⟨v41, h41, h⟩ := bnd h
        try dsimp only at h
        refine w_callV (L := (LC E b)) (k := o0 + 373) (As := [.int x3]) (rest := [.ref (b + o0)]) C hW hS (kdlt (chX11_15 ho0) (by decide)) (ccX4 (chX11_15 ho0)) kcX4 (mX4_secondOf (o0 + 373) x3 (chX11_15 ho0) σ v41 h41) cwX4_secondOf cvX4_secondOf rfl mlX11_410 ⟨by decide, by decide⟩ rfl hl.1 (Nat.le_of_ble_eq_true rfl) ⟨by decide, by decide⟩ dX11_countScansOn_41 rfl (fun H locs hW hS => ?_)
        obtain ⟨v44, h44, h⟩ := bnd h
        try dsimp only at h
        refine w_callV (L := (LC E b)) (k := o0) (As := [.int v41]) (rest := []) C hW hS (kdlt ho0 (by decide)) (ccX11 ho0) kcX11 (mX11_openingWith o0 v41 ho0 σ v44 h44) cwX11_openingWith cvX11_openingWith rfl mlX11_311 ⟨by decide, by decide⟩ rfl hl.1 (Nat.le_of_ble_eq_true rfl) ⟨by decide, by decide⟩ dX11_countScansOn_44 rfl (fun H locs hW hS => ?_)
        refine lv_iload_n hx0 hb dX11_countScansOn_47 rfl (lv_at hl 1 rfl) ?_
        refine lv_icmp_ne (tgt := 54) hx0 hb dX11_countScansOn_48 (by decide) (fun c48 => ?_) (fun c48 => ?_)
        · rw [if_neg c48] at h
          refine lv_iinc (v := x3 + (1 : Int32)) (lv' := [(3, .int (x3 + (1 : Int32))), (0, .ref (b + o0)), (1, .int x1), (2, .int x2)]) hx0 hb dX11_countScansOn_54 hl (k := 3) rfl rfl (by decide) rfl (fun ls hl => ?_)
          refine lv_goto (tgt := 8) hx0 hb dX11_countScansOn_57 (by decide) ?_
          exact ih x2 (x3 + (1 : Int32)) h _ _ _ hW hS (lv_sub hl [1, 2, 3, 0] rfl)
        · rw [if_pos c48] at h
          refine lv_iinc (v := x2 + (1 : Int32)) (lv' := [(2, .int (x2 + (1 : Int32))), (0, .ref (b + o0)), (1, .int x1), (3, .int x3)]) hx0 hb dX11_countScansOn_51 hl (k := 2) rfl rfl (by decide) rfl (fun ls hl => ?_)
          refine lv_iinc (v := x3 + (1 : Int32)) (lv' := [(3, .int (x3 + (1 : Int32))), (2, .int (x2 + (1 : Int32))), (0, .ref (b + o0)), (1, .int x1)]) hx0 hb dX11_countScansOn_54 hl (k := 3) rfl rfl (by decide) rfl (fun ls hl => ?_)
          refine lv_goto (tgt := 8) hx0 hb dX11_countScansOn_57 (by decide) ?_
          exact ih (x2 + (1 : Int32)) (x3 + (1 : Int32)) h _ _ _ hW hS (lv_sub hl [2, 3, 1, 0] rfl)
def fX11_countScansOn (o0 : Nat) (x1 : Int32) (σ : Mem) : Option (Int32 × Mem) :=
  (fX11_followScans o0 σ).bind fun v1 => (fX11_countScansOn_l8 o0 x1 FU (0 : Int32) (0 : Int32) v1).bind fun q8 => some (q8.1, v1)
set_option maxRecDepth 100000 in
set_option maxHeartbeats 4000000 in
theorem mX11_countScansOn {l : Launch} {E : Ev} {b : Nat} (o0 : Nat) (x1 : Int32) (ho0 : kd o0 = 11) (σ : Mem) (r : (Int32 × Mem)) (h : fX11_countScansOn o0 x1 σ = some r) : Met l yX11_countScansOn (tw yX11_countScansOn cX11_countScansOn 4 (some .int)) { frames := 5, cells := 0, slots := 0, locals := 113 } (va_Pc [.ref (b + o0), .int x1] (Pr l E (LC E b) σ)) (Qz E (LC E b) (some (.int r.1)) r.2) 0 0 (La (LC E b)) := by
  refine ct_of (by decide) (Nat.le_of_ble_eq_true rfl) ?_
  intro p e s m below meth c C hW hS ls hl
  have hx0 := C.1
  have hb := C.2.1
  have hl : lv_has ls 4 [(0, .ref (b + o0)), (1, .int x1)] := hl
  unfold fX11_countScansOn at h
  refine lv_aload_n hx0 hb dX11_countScansOn_0 rfl (lv_at hl 0 rfl) ?_
  obtain ⟨v1, h1, h⟩ := bnd h
  try dsimp only at h
  refine w_callV (L := (LC E b)) (k := o0) (As := []) (rest := []) C hW hS (kdlt ho0 (by decide)) (ccX11 ho0) kcX11 (mX11_followScans o0 ho0 σ v1 h1) cwX11_followScans cvX11_followScans rfl mlX11_278 ⟨by decide, by decide⟩ rfl hl.1 (Nat.le_of_ble_eq_true rfl) ⟨by decide, by decide⟩ dX11_countScansOn_1 rfl (fun H locs hW hS => ?_)
  refine lv_iconst (v := (0 : Int32)) hx0 hb dX11_countScansOn_4 (by decide) ?_
  refine lv_istore_n (lv' := [(2, .int (0 : Int32)), (0, .ref (b + o0)), (1, .int x1)]) hx0 hb dX11_countScansOn_5 rfl hl (by decide) rfl (fun ls hl => ?_)
  refine lv_iconst (v := (0 : Int32)) hx0 hb dX11_countScansOn_6 (by decide) ?_
  refine lv_istore_n (lv' := [(3, .int (0 : Int32)), (2, .int (0 : Int32)), (0, .ref (b + o0)), (1, .int x1)]) hx0 hb dX11_countScansOn_7 rfl hl (by decide) rfl (fun ls hl => ?_)
  obtain ⟨q8, h8, h⟩ := bnd h
  try dsimp only at h
  refine bX11_countScansOn_l8 C o0 x1 ho0 v1 (q := q8) ?_ FU (0 : Int32) (0 : Int32) h8 _ _ _ hW hS (lv_sub hl [2, 3, 1, 0] rfl)
  intro H locs ls hW hS hl
  refine lv_iload_n hx0 hb dX11_countScansOn_60 rfl (lv_at hl 2 rfl) ?_
  cases h
  exact w_iret C hW hS dX11_countScansOn_61
def fX11_opening (o0 : Nat) (x1 : Int32) (x2 : Int32) (σ : Mem) : Option Rx :=
  (fX11_requireOpening o0 x1 σ).bind fun v2 => match v2.1 with | .inl n2 => some (.inl n2, v2.2) | .inr a2 => if x2 = (0 : Int32) then ((fX10_leftOf (o0 + 42) x1 v2.2).bind fun v45 => some (.inr v45, v2.2)) else (if x2 = (1 : Int32) then ((fX10_rightOf (o0 + 42) x1 v2.2).bind fun v54 => some (.inr v54, v2.2)) else (if x2 = (2 : Int32) then ((fX10_gapOf (o0 + 42) x1 v2.2).bind fun v63 => some (.inr v63, v2.2)) else (if x2 = (3 : Int32) then ((fX10_leftOf (o0 + 42) x1 v2.2).bind fun v76 => (fX10_slipsOn (o0 + 42) v76 (1 : Int32) v2.2).bind fun v80 => (fX10_rightOf (o0 + 42) x1 v2.2).bind fun v92 => (fX10_slipsOn (o0 + 42) v92 (0 : Int32) v2.2).bind fun v96 => some (.inr (v80 + v96), v2.2)) else (if x2 = (4 : Int32) then ((fX11_countScansOn o0 x1 v2.2).bind fun v103 => some (.inr v103.1, v103.2)) else (some (.inl 1, v2.2))))))
set_option maxRecDepth 100000 in
set_option maxHeartbeats 4000000 in
theorem mX11_opening {l : Launch} {E : Ev} {b : Nat} (o0 : Nat) (x1 : Int32) (x2 : Int32) (ho0 : kd o0 = 11) (σ : Mem) (r : Rx) (h : fX11_opening o0 x1 x2 σ = some r) : vx_Met l yX11_opening (tw yX11_opening cX11_opening 3 (some .int)) { frames := 7, cells := 2, slots := 12, locals := 136 } (va_Pc [.ref (b + o0), .int x1, .int x2] (Pr l E (LC E b) σ)) (Qx E (LC E b) rvI r) (Xx E (LC E b) r) 2 12 (La (LC E b)) := by
  refine cx_of (by decide) (Nat.le_of_ble_eq_true rfl) ?_
  intro p e s m below meth c C hT hW hS ls hl
  have hx0 := C.1
  have hb := C.2.1
  have hl : lv_has ls 3 [(0, .ref (b + o0)), (1, .int x1), (2, .int x2)] := hl
  unfold fX11_opening at h
  refine lv_aload_n hx0 hb dX11_opening_0 rfl (lv_at hl 0 rfl) ?_
  refine lv_iload_n hx0 hb dX11_opening_1 rfl (lv_at hl 1 rfl) ?_
  obtain ⟨v2, h2, h⟩ := bnd h
  try dsimp only at h
  refine x_callV (L := (LC E b)) (k := o0) (As := [.int x1]) (rest := []) C hW hS (kdlt ho0 (by decide)) (ccX11 ho0) kcX11 (mX11_requireOpening o0 x1 ho0 σ v2 h2) cwX11_requireOpening cvX11_requireOpening rfl mlX11_235 ⟨by decide, by decide⟩ rfl hl.1 (Nat.le_of_ble_eq_true rfl) ⟨by decide, by decide⟩ dX11_opening_2 rfl (fun n2 e2 H locs q ce hW hS hq hv hc => by rw [e2] at h; (try dsimp only at h); cases h; exact x_out C hT hW hS hq hv hc (by decide) (by decide)) (fun a2 e2 H locs hW hS => ?_)
  rw [e2] at h
  try dsimp only at h
  refine lv_iload_n hx0 hb dX11_opening_5 rfl (lv_at hl 2 rfl) ?_
  by_cases q6_0 : x2 = (0 : Int32)
  · rw [if_pos q6_0] at h
    refine lv_tableIn (tgt := 40) hx0 hb dX11_opening_6 (by rw [q6_0]; decide) (by rw [q6_0]; decide) (by rw [q6_0]; rfl) (by decide) ?_
    refine lv_aload_n hx0 hb dX11_opening_40 rfl (lv_at hl 0 rfl) ?_
    refine gtX11_6 (k := o0) C hW ho0 flX11_48 dX11_opening_41 ?_
    refine lv_iload_n hx0 hb dX11_opening_44 rfl (lv_at hl 1 rfl) ?_
    obtain ⟨v45, h45, h⟩ := bnd h
    try dsimp only at h
    refine w_callV (L := (LC E b)) (k := o0 + 42) (As := [.int x1]) (rest := []) C hW hS (kdlt (chX11_6 ho0) (by decide)) (ccX10 (chX11_6 ho0)) kcX10 (mX10_leftOf (o0 + 42) x1 (chX11_6 ho0) v2.2 v45 h45) cwX10_leftOf cvX10_leftOf rfl mlX11_238 ⟨by decide, by decide⟩ rfl hl.1 (Nat.le_of_ble_eq_true rfl) ⟨by decide, by decide⟩ dX11_opening_45 rfl (fun H locs hW hS => ?_)
    cases h
    exact x_iret C hW hS (by decide) (by decide) dX11_opening_48
  rw [if_neg q6_0] at h
  by_cases q6_1 : x2 = (1 : Int32)
  · rw [if_pos q6_1] at h
    refine lv_tableIn (tgt := 49) hx0 hb dX11_opening_6 (by rw [q6_1]; decide) (by rw [q6_1]; decide) (by rw [q6_1]; rfl) (by decide) ?_
    refine lv_aload_n hx0 hb dX11_opening_49 rfl (lv_at hl 0 rfl) ?_
    refine gtX11_6 (k := o0) C hW ho0 flX11_48 dX11_opening_50 ?_
    refine lv_iload_n hx0 hb dX11_opening_53 rfl (lv_at hl 1 rfl) ?_
    obtain ⟨v54, h54, h⟩ := bnd h
    try dsimp only at h
    refine w_callV (L := (LC E b)) (k := o0 + 42) (As := [.int x1]) (rest := []) C hW hS (kdlt (chX11_6 ho0) (by decide)) (ccX10 (chX11_6 ho0)) kcX10 (mX10_rightOf (o0 + 42) x1 (chX11_6 ho0) v2.2 v54 h54) cwX10_rightOf cvX10_rightOf rfl mlX11_241 ⟨by decide, by decide⟩ rfl hl.1 (Nat.le_of_ble_eq_true rfl) ⟨by decide, by decide⟩ dX11_opening_54 rfl (fun H locs hW hS => ?_)
    cases h
    exact x_iret C hW hS (by decide) (by decide) dX11_opening_57
  rw [if_neg q6_1] at h
  by_cases q6_2 : x2 = (2 : Int32)
  · rw [if_pos q6_2] at h
    refine lv_tableIn (tgt := 58) hx0 hb dX11_opening_6 (by rw [q6_2]; decide) (by rw [q6_2]; decide) (by rw [q6_2]; rfl) (by decide) ?_
    refine lv_aload_n hx0 hb dX11_opening_58 rfl (lv_at hl 0 rfl) ?_
    refine gtX11_6 (k := o0) C hW ho0 flX11_48 dX11_opening_59 ?_
    refine lv_iload_n hx0 hb dX11_opening_62 rfl (lv_at hl 1 rfl) ?_
    obtain ⟨v63, h63, h⟩ := bnd h
    try dsimp only at h
    refine w_callV (L := (LC E b)) (k := o0 + 42) (As := [.int x1]) (rest := []) C hW hS (kdlt (chX11_6 ho0) (by decide)) (ccX10 (chX11_6 ho0)) kcX10 (mX10_gapOf (o0 + 42) x1 (chX11_6 ho0) v2.2 v63 h63) cwX10_gapOf cvX10_gapOf rfl mlX11_399 ⟨by decide, by decide⟩ rfl hl.1 (Nat.le_of_ble_eq_true rfl) ⟨by decide, by decide⟩ dX11_opening_63 rfl (fun H locs hW hS => ?_)
    cases h
    exact x_iret C hW hS (by decide) (by decide) dX11_opening_66
  rw [if_neg q6_2] at h
  by_cases q6_3 : x2 = (3 : Int32)
  · rw [if_pos q6_3] at h
    refine lv_tableIn (tgt := 67) hx0 hb dX11_opening_6 (by rw [q6_3]; decide) (by rw [q6_3]; decide) (by rw [q6_3]; rfl) (by decide) ?_
    refine lv_aload_n hx0 hb dX11_opening_67 rfl (lv_at hl 0 rfl) ?_
    refine gtX11_6 (k := o0) C hW ho0 flX11_48 dX11_opening_68 ?_
    refine lv_aload_n hx0 hb dX11_opening_71 rfl (lv_at hl 0 rfl) ?_
    refine gtX11_6 (k := o0) C hW ho0 flX11_48 dX11_opening_72 ?_
    refine lv_iload_n hx0 hb dX11_opening_75 rfl (lv_at hl 1 rfl) ?_
    obtain ⟨v76, h76, h⟩ := bnd h
    try dsimp only at h
    refine w_callV (L := (LC E b)) (k := o0 + 42) (As := [.int x1]) (rest := [.ref (b + (o0 + 42))]) C hW hS (kdlt (chX11_6 ho0) (by decide)) (ccX10 (chX11_6 ho0)) kcX10 (mX10_leftOf (o0 + 42) x1 (chX11_6 ho0) v2.2 v76 h76) cwX10_leftOf cvX10_leftOf rfl mlX11_238 ⟨by decide, by decide⟩ rfl hl.1 (Nat.le_of_ble_eq_true rfl) ⟨by decide, by decide⟩ dX11_opening_76 rfl (fun H locs hW hS => ?_)
    refine lv_iconst (v := (1 : Int32)) hx0 hb dX11_opening_79 (by decide) ?_
    obtain ⟨v80, h80, h⟩ := bnd h
    try dsimp only at h
    refine w_callV (L := (LC E b)) (k := o0 + 42) (As := [.int v76, .int (1 : Int32)]) (rest := []) C hW hS (kdlt (chX11_6 ho0) (by decide)) (ccX10 (chX11_6 ho0)) kcX10 (mX10_slipsOn (o0 + 42) v76 (1 : Int32) (chX11_6 ho0) v2.2 v80 h80) cwX10_slipsOn cvX10_slipsOn rfl mlX11_336 ⟨by decide, by decide⟩ rfl hl.1 (Nat.le_of_ble_eq_true rfl) ⟨by decide, by decide⟩ dX11_opening_80 rfl (fun H locs hW hS => ?_)
    refine lv_aload_n hx0 hb dX11_opening_83 rfl (lv_at hl 0 rfl) ?_
    refine gtX11_6 (k := o0) C hW ho0 flX11_48 dX11_opening_84 ?_
    refine lv_aload_n hx0 hb dX11_opening_87 rfl (lv_at hl 0 rfl) ?_
    refine gtX11_6 (k := o0) C hW ho0 flX11_48 dX11_opening_88 ?_
    refine lv_iload_n hx0 hb dX11_opening_91 rfl (lv_at hl 1 rfl) ?_
    obtain ⟨v92, h92, h⟩ := bnd h
    try dsimp only at h
    refine w_callV (L := (LC E b)) (k := o0 + 42) (As := [.int x1]) (rest := [.ref (b + (o0 + 42)), .int v80]) C hW hS (kdlt (chX11_6 ho0) (by decide)) (ccX10 (chX11_6 ho0)) kcX10 (mX10_rightOf (o0 + 42) x1 (chX11_6 ho0) v2.2 v92 h92) cwX10_rightOf cvX10_rightOf rfl mlX11_241 ⟨by decide, by decide⟩ rfl hl.1 (Nat.le_of_ble_eq_true rfl) ⟨by decide, by decide⟩ dX11_opening_92 rfl (fun H locs hW hS => ?_)
    refine lv_iconst (v := (0 : Int32)) hx0 hb dX11_opening_95 (by decide) ?_
    obtain ⟨v96, h96, h⟩ := bnd h
    try dsimp only at h
    refine w_callV (L := (LC E b)) (k := o0 + 42) (As := [.int v92, .int (0 : Int32)]) (rest := [.int v80]) C hW hS (kdlt (chX11_6 ho0) (by decide)) (ccX10 (chX11_6 ho0)) kcX10 (mX10_slipsOn (o0 + 42) v92 (0 : Int32) (chX11_6 ho0) v2.2 v96 h96) cwX10_slipsOn cvX10_slipsOn rfl mlX11_336 ⟨by decide, by decide⟩ rfl hl.1 (Nat.le_of_ble_eq_true rfl) ⟨by decide, by decide⟩ dX11_opening_96 rfl (fun H locs hW hS => ?_)
    refine lv_iadd hx0 hb dX11_opening_99 ?_
    cases h
    exact x_iret C hW hS (by decide) (by decide) dX11_opening_100
  rw [if_neg q6_3] at h
  by_cases q6_4 : x2 = (4 : Int32)
  · rw [if_pos q6_4] at h
    refine lv_tableIn (tgt := 101) hx0 hb dX11_opening_6 (by rw [q6_4]; decide) (by rw [q6_4]; decide) (by rw [q6_4]; rfl) (by decide) ?_
    refine lv_aload_n hx0 hb dX11_opening_101 rfl (lv_at hl 0 rfl) ?_
    refine lv_iload_n hx0 hb dX11_opening_102 rfl (lv_at hl 1 rfl) ?_
    obtain ⟨v103, h103, h⟩ := bnd h
    try dsimp only at h
    refine w_callV (L := (LC E b)) (k := o0) (As := [.int x1]) (rest := []) C hW hS (kdlt ho0 (by decide)) (ccX11 ho0) kcX11 (mX11_countScansOn o0 x1 ho0 v2.2 v103 h103) cwX11_countScansOn cvX11_countScansOn rfl mlX11_402 ⟨by decide, by decide⟩ rfl hl.1 (Nat.le_of_ble_eq_true rfl) ⟨by decide, by decide⟩ dX11_opening_103 rfl (fun H locs hW hS => ?_)
    cases h
    exact x_iret C hW hS (by decide) (by decide) dX11_opening_106
  rw [if_neg q6_4] at h
  refine lv_tableOut (tgt := 107) hx0 hb dX11_opening_6 (tab5 q6_0 q6_1 q6_2 q6_3 q6_4) (by decide) ?_
  cases h
  exact x_throwW (n := 1) (si := 49) C hT (by decide +kernel) xat1 xgd1 xcl1 xin1 rfl hW hS hl.1 ⟨by decide, Nat.le_of_ble_eq_true rfl⟩ ⟨by decide, by decide⟩ (by decide) (by decide) dX11_opening_107 dX11_opening_110 dX11_opening_111 dX11_opening_114 dX11_opening_117
def fX11_view (o0 : Nat) (σ : Mem) : Option Int32 :=
  (fX9_current (o0 + 69) σ).bind fun v4 => some v4
set_option maxRecDepth 100000 in
set_option maxHeartbeats 4000000 in
theorem mX11_view {l : Launch} {E : Ev} {b : Nat} (o0 : Nat) (ho0 : kd o0 = 11) (σ : Mem) (r : Int32) (h : fX11_view o0 σ = some r) : Met l yX11_view (tw yX11_view cX11_view 1 (some .int)) { frames := 1, cells := 0, slots := 0, locals := 20 } (va_Pc [.ref (b + o0)] (Pr l E (LC E b) σ)) (Qz E (LC E b) (some (.int r)) σ) 0 0 (La (LC E b)) := by
  refine ct_of (by decide) (Nat.le_of_ble_eq_true rfl) ?_
  intro p e s m below meth c C hW hS ls hl
  have hx0 := C.1
  have hb := C.2.1
  have hl : lv_has ls 1 [(0, .ref (b + o0))] := hl
  unfold fX11_view at h
  refine lv_aload_n hx0 hb dX11_view_0 rfl (lv_at hl 0 rfl) ?_
  refine gtX11_9 (k := o0) C hW ho0 flX11_63 dX11_view_1 ?_
  obtain ⟨v4, h4, h⟩ := bnd h
  try dsimp only at h
  refine w_callV (L := (LC E b)) (k := o0 + 69) (As := []) (rest := []) C hW hS (kdlt (chX11_9 ho0) (by decide)) (ccX9 (chX11_9 ho0)) kcX9 (mX9_current (o0 + 69) (chX11_9 ho0) σ v4 h4) cwX9_current cvX9_current rfl mlX11_297 ⟨by decide, by decide⟩ rfl hl.1 (Nat.le_of_ble_eq_true rfl) ⟨by decide, by decide⟩ dX11_view_4 rfl (fun H locs hW hS => ?_)
  cases h
  exact w_iret C hW hS dX11_view_7
def fX11_trailLength (o0 : Nat) (σ : Mem) : Option Int32 :=
  (fX9_trailSize (o0 + 69) σ).bind fun v4 => some v4
set_option maxRecDepth 100000 in
set_option maxHeartbeats 4000000 in
theorem mX11_trailLength {l : Launch} {E : Ev} {b : Nat} (o0 : Nat) (ho0 : kd o0 = 11) (σ : Mem) (r : Int32) (h : fX11_trailLength o0 σ = some r) : Met l yX11_trailLength (tw yX11_trailLength cX11_trailLength 1 (some .int)) { frames := 1, cells := 0, slots := 0, locals := 20 } (va_Pc [.ref (b + o0)] (Pr l E (LC E b) σ)) (Qz E (LC E b) (some (.int r)) σ) 0 0 (La (LC E b)) := by
  refine ct_of (by decide) (Nat.le_of_ble_eq_true rfl) ?_
  intro p e s m below meth c C hW hS ls hl
  have hx0 := C.1
  have hb := C.2.1
  have hl : lv_has ls 1 [(0, .ref (b + o0))] := hl
  unfold fX11_trailLength at h
  refine lv_aload_n hx0 hb dX11_trailLength_0 rfl (lv_at hl 0 rfl) ?_
  refine gtX11_9 (k := o0) C hW ho0 flX11_63 dX11_trailLength_1 ?_
  obtain ⟨v4, h4, h⟩ := bnd h
  try dsimp only at h
  refine w_callV (L := (LC E b)) (k := o0 + 69) (As := []) (rest := []) C hW hS (kdlt (chX11_9 ho0) (by decide)) (ccX9 (chX11_9 ho0)) kcX9 (mX9_trailSize (o0 + 69) (chX11_9 ho0) σ v4 h4) cwX9_trailSize cvX9_trailSize rfl mlX11_314 ⟨by decide, by decide⟩ rfl hl.1 (Nat.le_of_ble_eq_true rfl) ⟨by decide, by decide⟩ dX11_trailLength_4 rfl (fun H locs hW hS => ?_)
  cases h
  exact w_iret C hW hS dX11_trailLength_7
def fX11_scanCount (o0 : Nat) (σ : Mem) : Option Int32 :=
  (fX5_size (o0 + 62) σ).bind fun v4 => some v4
set_option maxRecDepth 100000 in
set_option maxHeartbeats 4000000 in
theorem mX11_scanCount {l : Launch} {E : Ev} {b : Nat} (o0 : Nat) (ho0 : kd o0 = 11) (σ : Mem) (r : Int32) (h : fX11_scanCount o0 σ = some r) : Met l yX11_scanCount (tw yX11_scanCount cX11_scanCount 1 (some .int)) { frames := 1, cells := 0, slots := 0, locals := 20 } (va_Pc [.ref (b + o0)] (Pr l E (LC E b) σ)) (Qz E (LC E b) (some (.int r)) σ) 0 0 (La (LC E b)) := by
  refine ct_of (by decide) (Nat.le_of_ble_eq_true rfl) ?_
  intro p e s m below meth c C hW hS ls hl
  have hx0 := C.1
  have hb := C.2.1
  have hl : lv_has ls 1 [(0, .ref (b + o0))] := hl
  unfold fX11_scanCount at h
  refine lv_aload_n hx0 hb dX11_scanCount_0 rfl (lv_at hl 0 rfl) ?_
  refine gtX11_8 (k := o0) C hW ho0 flX11_58 dX11_scanCount_1 ?_
  obtain ⟨v4, h4, h⟩ := bnd h
  try dsimp only at h
  refine w_callV (L := (LC E b)) (k := o0 + 62) (As := []) (rest := []) C hW hS (kdlt (chX11_8 ho0) (by decide)) (ccX5 (chX11_8 ho0)) kcX5 (mX5_size (o0 + 62) (chX11_8 ho0) σ v4 h4) cwX5_size cvX5_size rfl mlX11_261 ⟨by decide, by decide⟩ rfl hl.1 (Nat.le_of_ble_eq_true rfl) ⟨by decide, by decide⟩ dX11_scanCount_4 rfl (fun H locs hW hS => ?_)
  cases h
  exact w_iret C hW hS dX11_scanCount_7
def fX11_scan (o0 : Nat) (x1 : Int32) (x2 : Int32) (σ : Mem) : Option Rx :=
  (fX11_requireScan o0 x1 σ).bind fun v2 => match v2.1 with | .inl n2 => some (.inl n2, v2.2) | .inr a2 => if x2 = (0 : Int32) then ((fX5_kindOf (o0 + 62) x1 v2.2).bind fun v41 => some (.inr v41, v2.2)) else (if x2 = (1 : Int32) then ((fX11_followScans o0 v2.2).bind fun v46 => (fX4_firstOf (o0 + 373) x1 v46).bind fun v54 => some (.inr v54, v46)) else (if x2 = (2 : Int32) then ((fX5_firstOf (o0 + 62) x1 v2.2).bind fun v63 => some (.inr v63, v2.2)) else (if x2 = (3 : Int32) then ((fX5_secondOf (o0 + 62) x1 v2.2).bind fun v72 => some (.inr v72, v2.2)) else (some (.inl 1, v2.2)))))
set_option maxRecDepth 100000 in
set_option maxHeartbeats 4000000 in
theorem mX11_scan {l : Launch} {E : Ev} {b : Nat} (o0 : Nat) (x1 : Int32) (x2 : Int32) (ho0 : kd o0 = 11) (σ : Mem) (r : Rx) (h : fX11_scan o0 x1 x2 σ = some r) : vx_Met l yX11_scan (tw yX11_scan cX11_scan 3 (some .int)) { frames := 7, cells := 2, slots := 12, locals := 113 } (va_Pc [.ref (b + o0), .int x1, .int x2] (Pr l E (LC E b) σ)) (Qx E (LC E b) rvI r) (Xx E (LC E b) r) 2 12 (La (LC E b)) := by
  refine cx_of (by decide) (Nat.le_of_ble_eq_true rfl) ?_
  intro p e s m below meth c C hT hW hS ls hl
  have hx0 := C.1
  have hb := C.2.1
  have hl : lv_has ls 3 [(0, .ref (b + o0)), (1, .int x1), (2, .int x2)] := hl
  unfold fX11_scan at h
  refine lv_aload_n hx0 hb dX11_scan_0 rfl (lv_at hl 0 rfl) ?_
  refine lv_iload_n hx0 hb dX11_scan_1 rfl (lv_at hl 1 rfl) ?_
  obtain ⟨v2, h2, h⟩ := bnd h
  try dsimp only at h
  refine x_callV (L := (LC E b)) (k := o0) (As := [.int x1]) (rest := []) C hW hS (kdlt ho0 (by decide)) (ccX11 ho0) kcX11 (mX11_requireScan o0 x1 ho0 σ v2 h2) cwX11_requireScan cvX11_requireScan rfl mlX11_262 ⟨by decide, by decide⟩ rfl hl.1 (Nat.le_of_ble_eq_true rfl) ⟨by decide, by decide⟩ dX11_scan_2 rfl (fun n2 e2 H locs q ce hW hS hq hv hc => by rw [e2] at h; (try dsimp only at h); cases h; exact x_out C hT hW hS hq hv hc (by decide) (by decide)) (fun a2 e2 H locs hW hS => ?_)
  rw [e2] at h
  try dsimp only at h
  refine lv_iload_n hx0 hb dX11_scan_5 rfl (lv_at hl 2 rfl) ?_
  by_cases q6_0 : x2 = (0 : Int32)
  · rw [if_pos q6_0] at h
    refine lv_tableIn (tgt := 36) hx0 hb dX11_scan_6 (by rw [q6_0]; decide) (by rw [q6_0]; decide) (by rw [q6_0]; rfl) (by decide) ?_
    refine lv_aload_n hx0 hb dX11_scan_36 rfl (lv_at hl 0 rfl) ?_
    refine gtX11_8 (k := o0) C hW ho0 flX11_58 dX11_scan_37 ?_
    refine lv_iload_n hx0 hb dX11_scan_40 rfl (lv_at hl 1 rfl) ?_
    obtain ⟨v41, h41, h⟩ := bnd h
    try dsimp only at h
    refine w_callV (L := (LC E b)) (k := o0 + 62) (As := [.int x1]) (rest := []) C hW hS (kdlt (chX11_8 ho0) (by decide)) (ccX5 (chX11_8 ho0)) kcX5 (mX5_kindOf (o0 + 62) x1 (chX11_8 ho0) v2.2 v41 h41) cwX5_kindOf cvX5_kindOf rfl mlX11_265 ⟨by decide, by decide⟩ rfl hl.1 (Nat.le_of_ble_eq_true rfl) ⟨by decide, by decide⟩ dX11_scan_41 rfl (fun H locs hW hS => ?_)
    cases h
    exact x_iret C hW hS (by decide) (by decide) dX11_scan_44
  rw [if_neg q6_0] at h
  by_cases q6_1 : x2 = (1 : Int32)
  · rw [if_pos q6_1] at h
    refine lv_tableIn (tgt := 45) hx0 hb dX11_scan_6 (by rw [q6_1]; decide) (by rw [q6_1]; decide) (by rw [q6_1]; rfl) (by decide) ?_
    refine lv_aload_n hx0 hb dX11_scan_45 rfl (lv_at hl 0 rfl) ?_
    obtain ⟨v46, h46, h⟩ := bnd h
    try dsimp only at h
    refine w_callV (L := (LC E b)) (k := o0) (As := []) (rest := []) C hW hS (kdlt ho0 (by decide)) (ccX11 ho0) kcX11 (mX11_followScans o0 ho0 v2.2 v46 h46) cwX11_followScans cvX11_followScans rfl mlX11_278 ⟨by decide, by decide⟩ rfl hl.1 (Nat.le_of_ble_eq_true rfl) ⟨by decide, by decide⟩ dX11_scan_46 rfl (fun H locs hW hS => ?_)
    refine lv_aload_n hx0 hb dX11_scan_49 rfl (lv_at hl 0 rfl) ?_
    refine gtX11_15 (k := o0) C hW ho0 flX11_94 dX11_scan_50 ?_
    refine lv_iload_n hx0 hb dX11_scan_53 rfl (lv_at hl 1 rfl) ?_
    obtain ⟨v54, h54, h⟩ := bnd h
    try dsimp only at h
    refine w_callV (L := (LC E b)) (k := o0 + 373) (As := [.int x1]) (rest := []) C hW hS (kdlt (chX11_15 ho0) (by decide)) (ccX4 (chX11_15 ho0)) kcX4 (mX4_firstOf (o0 + 373) x1 (chX11_15 ho0) v46 v54 h54) cwX4_firstOf cvX4_firstOf rfl mlX11_407 ⟨by decide, by decide⟩ rfl hl.1 (Nat.le_of_ble_eq_true rfl) ⟨by decide, by decide⟩ dX11_scan_54 rfl (fun H locs hW hS => ?_)
    cases h
    exact x_iret C hW hS (by decide) (by decide) dX11_scan_57
  rw [if_neg q6_1] at h
  by_cases q6_2 : x2 = (2 : Int32)
  · rw [if_pos q6_2] at h
    refine lv_tableIn (tgt := 58) hx0 hb dX11_scan_6 (by rw [q6_2]; decide) (by rw [q6_2]; decide) (by rw [q6_2]; rfl) (by decide) ?_
    refine lv_aload_n hx0 hb dX11_scan_58 rfl (lv_at hl 0 rfl) ?_
    refine gtX11_8 (k := o0) C hW ho0 flX11_58 dX11_scan_59 ?_
    refine lv_iload_n hx0 hb dX11_scan_62 rfl (lv_at hl 1 rfl) ?_
    obtain ⟨v63, h63, h⟩ := bnd h
    try dsimp only at h
    refine w_callV (L := (LC E b)) (k := o0 + 62) (As := [.int x1]) (rest := []) C hW hS (kdlt (chX11_8 ho0) (by decide)) (ccX5 (chX11_8 ho0)) kcX5 (mX5_firstOf (o0 + 62) x1 (chX11_8 ho0) v2.2 v63 h63) cwX5_firstOf cvX5_firstOf rfl mlX11_416 ⟨by decide, by decide⟩ rfl hl.1 (Nat.le_of_ble_eq_true rfl) ⟨by decide, by decide⟩ dX11_scan_63 rfl (fun H locs hW hS => ?_)
    cases h
    exact x_iret C hW hS (by decide) (by decide) dX11_scan_66
  rw [if_neg q6_2] at h
  by_cases q6_3 : x2 = (3 : Int32)
  · rw [if_pos q6_3] at h
    refine lv_tableIn (tgt := 67) hx0 hb dX11_scan_6 (by rw [q6_3]; decide) (by rw [q6_3]; decide) (by rw [q6_3]; rfl) (by decide) ?_
    refine lv_aload_n hx0 hb dX11_scan_67 rfl (lv_at hl 0 rfl) ?_
    refine gtX11_8 (k := o0) C hW ho0 flX11_58 dX11_scan_68 ?_
    refine lv_iload_n hx0 hb dX11_scan_71 rfl (lv_at hl 1 rfl) ?_
    obtain ⟨v72, h72, h⟩ := bnd h
    try dsimp only at h
    refine w_callV (L := (LC E b)) (k := o0 + 62) (As := [.int x1]) (rest := []) C hW hS (kdlt (chX11_8 ho0) (by decide)) (ccX5 (chX11_8 ho0)) kcX5 (mX5_secondOf (o0 + 62) x1 (chX11_8 ho0) v2.2 v72 h72) cwX5_secondOf cvX5_secondOf rfl mlX11_417 ⟨by decide, by decide⟩ rfl hl.1 (Nat.le_of_ble_eq_true rfl) ⟨by decide, by decide⟩ dX11_scan_72 rfl (fun H locs hW hS => ?_)
    cases h
    exact x_iret C hW hS (by decide) (by decide) dX11_scan_75
  rw [if_neg q6_3] at h
  refine lv_tableOut (tgt := 76) hx0 hb dX11_scan_6 (tab4 q6_0 q6_1 q6_2 q6_3) (by decide) ?_
  cases h
  exact x_throwW (n := 1) (si := 50) C hT (by decide +kernel) xat1 xgd1 xcl1 xin1 rfl hW hS hl.1 ⟨by decide, Nat.le_of_ble_eq_true rfl⟩ ⟨by decide, by decide⟩ (by decide) (by decide) dX11_scan_76 dX11_scan_79 dX11_scan_80 dX11_scan_83 dX11_scan_86
def fX11_showing (o0 : Nat) (x1 : Int32) (σ : Mem) : Option Rx :=
  (fX11_requirePlace o0 x1 σ).bind fun v2 => match v2.1 with | .inl n2 => some (.inl n2, v2.2) | .inr a2 => (fX11_followScans o0 v2.2).bind fun v6 => (fX4_countShowing (o0 + 373) x1 v6).bind fun v14 => some (.inr v14, v6)
set_option maxRecDepth 100000 in
set_option maxHeartbeats 4000000 in
theorem mX11_showing {l : Launch} {E : Ev} {b : Nat} (o0 : Nat) (x1 : Int32) (ho0 : kd o0 = 11) (σ : Mem) (r : Rx) (h : fX11_showing o0 x1 σ = some r) : vx_Met l yX11_showing (tw yX11_showing cX11_showing 2 (some .int)) { frames := 7, cells := 1, slots := 6, locals := 114 } (va_Pc [.ref (b + o0), .int x1] (Pr l E (LC E b) σ)) (Qx E (LC E b) rvI r) (Xx E (LC E b) r) 1 6 (La (LC E b)) := by
  refine cx_of (by decide) (Nat.le_of_ble_eq_true rfl) ?_
  intro p e s m below meth c C hT hW hS ls hl
  have hx0 := C.1
  have hb := C.2.1
  have hl : lv_has ls 2 [(0, .ref (b + o0)), (1, .int x1)] := hl
  unfold fX11_showing at h
  refine lv_aload_n hx0 hb dX11_showing_0 rfl (lv_at hl 0 rfl) ?_
  refine lv_iload_n hx0 hb dX11_showing_1 rfl (lv_at hl 1 rfl) ?_
  obtain ⟨v2, h2, h⟩ := bnd h
  try dsimp only at h
  refine x_callV (L := (LC E b)) (k := o0) (As := [.int x1]) (rest := []) C hW hS (kdlt ho0 (by decide)) (ccX11 ho0) kcX11 (mX11_requirePlace o0 x1 ho0 σ v2 h2) cwX11_requirePlace cvX11_requirePlace rfl mlX11_308 ⟨by decide, by decide⟩ rfl hl.1 (Nat.le_of_ble_eq_true rfl) ⟨by decide, by decide⟩ dX11_showing_2 rfl (fun n2 e2 H locs q ce hW hS hq hv hc => by rw [e2] at h; (try dsimp only at h); cases h; exact x_out C hT hW hS hq hv hc (by decide) (by decide)) (fun a2 e2 H locs hW hS => ?_)
  rw [e2] at h
  try dsimp only at h
  refine lv_aload_n hx0 hb dX11_showing_5 rfl (lv_at hl 0 rfl) ?_
  obtain ⟨v6, h6, h⟩ := bnd h
  try dsimp only at h
  refine w_callV (L := (LC E b)) (k := o0) (As := []) (rest := []) C hW hS (kdlt ho0 (by decide)) (ccX11 ho0) kcX11 (mX11_followScans o0 ho0 v2.2 v6 h6) cwX11_followScans cvX11_followScans rfl mlX11_278 ⟨by decide, by decide⟩ rfl hl.1 (Nat.le_of_ble_eq_true rfl) ⟨by decide, by decide⟩ dX11_showing_6 rfl (fun H locs hW hS => ?_)
  refine lv_aload_n hx0 hb dX11_showing_9 rfl (lv_at hl 0 rfl) ?_
  refine gtX11_15 (k := o0) C hW ho0 flX11_94 dX11_showing_10 ?_
  refine lv_iload_n hx0 hb dX11_showing_13 rfl (lv_at hl 1 rfl) ?_
  obtain ⟨v14, h14, h⟩ := bnd h
  try dsimp only at h
  refine w_callV (L := (LC E b)) (k := o0 + 373) (As := [.int x1]) (rest := []) C hW hS (kdlt (chX11_15 ho0) (by decide)) (ccX4 (chX11_15 ho0)) kcX4 (mX4_countShowing (o0 + 373) x1 (chX11_15 ho0) v6 v14 h14) cwX4_countShowing cvX4_countShowing rfl mlX11_420 ⟨by decide, by decide⟩ rfl hl.1 (Nat.le_of_ble_eq_true rfl) ⟨by decide, by decide⟩ dX11_showing_14 rfl (fun H locs hW hS => ?_)
  cases h
  exact x_iret C hW hS (by decide) (by decide) dX11_showing_17
def fX11_uncovered_l8 (o0 : Nat) : Nat → Int32 → Int32 → Mem → Option (Int32 × Int32)
  | 0, _, _, _ => none
  | n + 1, x1, x2, σ => (fX2_size (o0 + 360) σ).bind fun v13 => if v13 ≤ x2 then (some (x1, x2)) else ((fX4_countShowing (o0 + 373) x2 σ).bind fun v24 => if v24 = 0 then (fX11_uncovered_l8 o0 n (x1 + (1 : Int32)) (x2 + (1 : Int32)) σ) else (fX11_uncovered_l8 o0 n x1 (x2 + (1 : Int32)) σ))
set_option maxRecDepth 100000 in
set_option maxHeartbeats 4000000 in
theorem bX11_uncovered_l8 {p : Program} {l : Launch} {e : Env} {s : State} {m : MethodId} {args : Array Value} {below : List Frame} {meth : Method} {c : Code} {E : Ev} {b : Nat} (C : Cx p l s m args meth c E cX11_uncovered 3 RX11 (some .int)) (o0 : Nat) (ho0 : kd o0 = 11) (σ : Mem) {Qf : State → Prop} {q : Int32 × Int32} (hx : ∀ H locs ls, Wd E (LC E b) σ H → va_S (La (LC E b)) s.heap H locs → lv_has ls 3 [(0, .ref (b + o0)), (1, .int q.1), (2, .int q.2)] → W p l e { frames := 5, cells := 0, slots := 0, locals := 113 } s m args below meth c H locs 0 0 Qf (F0 m 39 ls [])) : ∀ (n : Nat) (x1 : Int32) (x2 : Int32), fX11_uncovered_l8 o0 n x1 x2 σ = some q → ∀ (H : Heap) (locs : List Loc) (ls : Array Slot), Wd E (LC E b) σ H → va_S (La (LC E b)) s.heap H locs → lv_has ls 3 [(0, .ref (b + o0)), (1, .int x1), (2, .int x2)] → W p l e { frames := 5, cells := 0, slots := 0, locals := 113 } s m args below meth c H locs 0 0 Qf (F0 m 8 ls []) := by
  have hx0 := C.1
  have hb := C.2.1
  intro n
  induction n with
  | zero => intro x1 x2 h; simp [fX11_uncovered_l8] at h
  | succ n ih =>
    intro x1 x2 h H locs ls hW hS hl
    unfold fX11_uncovered_l8 at h
    refine lv_iload_n hx0 hb dX11_uncovered_8 rfl (lv_at hl 2 rfl) ?_
    refine lv_aload_n hx0 hb dX11_uncovered_9 rfl (lv_at hl 0 rfl) ?_
    refine gtX11_14 (k := o0) C hW ho0 flX11_87 dX11_uncovered_10 ?_
    obtain ⟨v13, h13, h⟩ := bnd h
    try dsimp only at h
    refine w_callV (L := (LC E b)) (k := o0 + 360) (As := []) (rest := [.int x2]) C hW hS (kdlt (chX11_14 ho0) (by decide)) (ccX2 (chX11_14 ho0)) kcX2 (mX2_size (o0 + 360) (chX11_14 ho0) σ v13 h13) cwX2_size cvX2_size rfl mlX11_363 ⟨by decide, by decide⟩ rfl hl.1 (Nat.le_of_ble_eq_true rfl) ⟨by decide, by decide⟩ dX11_uncovered_13 rfl (fun H locs hW hS => ?_)
    refine lv_icmp_ge (tgt := 39) hx0 hb dX11_uncovered_16 (by decide) (fun c16 => ?_) (fun c16 => ?_)
    · rw [if_pos c16] at h
      cases h
      exact hx _ _ _ hW hS (lv_sub hl [0, 1, 2] rfl)
    · rw [if_neg c16] at h
      refine lv_aload_n hx0 hb dX11_uncovered_19 rfl (lv_at hl 0 rfl) ?_
      refine gtX11_15 (k := o0) C hW ho0 flX11_94 dX11_uncovered_20 ?_
      refine lv_iload_n hx0 hb dX11_uncovered_23 rfl (lv_at hl 2 rfl) ?_
      obtain ⟨v24, h24, h⟩ := bnd h
      try dsimp only at h
      refine w_callV (L := (LC E b)) (k := o0 + 373) (As := [.int x2]) (rest := []) C hW hS (kdlt (chX11_15 ho0) (by decide)) (ccX4 (chX11_15 ho0)) kcX4 (mX4_countShowing (o0 + 373) x2 (chX11_15 ho0) σ v24 h24) cwX4_countShowing cvX4_countShowing rfl mlX11_420 ⟨by decide, by decide⟩ rfl hl.1 (Nat.le_of_ble_eq_true rfl) ⟨by decide, by decide⟩ dX11_uncovered_24 rfl (fun H locs hW hS => ?_)
      refine lv_if_ne (tgt := 33) hx0 hb dX11_uncovered_27 (by decide) (fun c27 => ?_) (fun c27 => ?_)
      · rw [if_neg c27] at h
        refine lv_iinc (v := x2 + (1 : Int32)) (lv' := [(2, .int (x2 + (1 : Int32))), (0, .ref (b + o0)), (1, .int x1)]) hx0 hb dX11_uncovered_33 hl (k := 2) rfl rfl (by decide) rfl (fun ls hl => ?_)
        refine lv_goto (tgt := 8) hx0 hb dX11_uncovered_36 (by decide) ?_
        exact ih x1 (x2 + (1 : Int32)) h _ _ _ hW hS (lv_sub hl [1, 2, 0] rfl)
      · rw [if_pos c27] at h
        refine lv_iinc (v := x1 + (1 : Int32)) (lv' := [(1, .int (x1 + (1 : Int32))), (0, .ref (b + o0)), (2, .int x2)]) hx0 hb dX11_uncovered_30 hl (k := 1) rfl rfl (by decide) rfl (fun ls hl => ?_)
        refine lv_iinc (v := x2 + (1 : Int32)) (lv' := [(2, .int (x2 + (1 : Int32))), (1, .int (x1 + (1 : Int32))), (0, .ref (b + o0))]) hx0 hb dX11_uncovered_33 hl (k := 2) rfl rfl (by decide) rfl (fun ls hl => ?_)
        refine lv_goto (tgt := 8) hx0 hb dX11_uncovered_36 (by decide) ?_
        exact ih (x1 + (1 : Int32)) (x2 + (1 : Int32)) h _ _ _ hW hS (lv_sub hl [2, 1, 0] rfl)
def fX11_uncovered (o0 : Nat) (σ : Mem) : Option (Int32 × Mem) :=
  (fX11_followScans o0 σ).bind fun v1 => (fX11_uncovered_l8 o0 FU (0 : Int32) (0 : Int32) v1).bind fun q8 => some (q8.1, v1)
set_option maxRecDepth 100000 in
set_option maxHeartbeats 4000000 in
theorem mX11_uncovered {l : Launch} {E : Ev} {b : Nat} (o0 : Nat) (ho0 : kd o0 = 11) (σ : Mem) (r : (Int32 × Mem)) (h : fX11_uncovered o0 σ = some r) : Met l yX11_uncovered (tw yX11_uncovered cX11_uncovered 3 (some .int)) { frames := 5, cells := 0, slots := 0, locals := 113 } (va_Pc [.ref (b + o0)] (Pr l E (LC E b) σ)) (Qz E (LC E b) (some (.int r.1)) r.2) 0 0 (La (LC E b)) := by
  refine ct_of (by decide) (Nat.le_of_ble_eq_true rfl) ?_
  intro p e s m below meth c C hW hS ls hl
  have hx0 := C.1
  have hb := C.2.1
  have hl : lv_has ls 3 [(0, .ref (b + o0))] := hl
  unfold fX11_uncovered at h
  refine lv_aload_n hx0 hb dX11_uncovered_0 rfl (lv_at hl 0 rfl) ?_
  obtain ⟨v1, h1, h⟩ := bnd h
  try dsimp only at h
  refine w_callV (L := (LC E b)) (k := o0) (As := []) (rest := []) C hW hS (kdlt ho0 (by decide)) (ccX11 ho0) kcX11 (mX11_followScans o0 ho0 σ v1 h1) cwX11_followScans cvX11_followScans rfl mlX11_278 ⟨by decide, by decide⟩ rfl hl.1 (Nat.le_of_ble_eq_true rfl) ⟨by decide, by decide⟩ dX11_uncovered_1 rfl (fun H locs hW hS => ?_)
  refine lv_iconst (v := (0 : Int32)) hx0 hb dX11_uncovered_4 (by decide) ?_
  refine lv_istore_n (lv' := [(1, .int (0 : Int32)), (0, .ref (b + o0))]) hx0 hb dX11_uncovered_5 rfl hl (by decide) rfl (fun ls hl => ?_)
  refine lv_iconst (v := (0 : Int32)) hx0 hb dX11_uncovered_6 (by decide) ?_
  refine lv_istore_n (lv' := [(2, .int (0 : Int32)), (1, .int (0 : Int32)), (0, .ref (b + o0))]) hx0 hb dX11_uncovered_7 rfl hl (by decide) rfl (fun ls hl => ?_)
  obtain ⟨q8, h8, h⟩ := bnd h
  try dsimp only at h
  refine bX11_uncovered_l8 C o0 ho0 v1 (q := q8) ?_ FU (0 : Int32) (0 : Int32) h8 _ _ _ hW hS (lv_sub hl [2, 1, 0] rfl)
  intro H locs ls hW hS hl
  refine lv_iload_n hx0 hb dX11_uncovered_39 rfl (lv_at hl 1 rfl) ?_
  cases h
  exact w_iret C hW hS dX11_uncovered_40
def fX11_nextUncovered_l11 (o0 : Nat) : Nat → Int32 → Mem → Option (Rx ⊕ (Int32))
  | 0, _, _ => none
  | n + 1, x2, σ => (fX2_size (o0 + 360) σ).bind fun v16 => if v16 ≤ x2 then (some (.inr x2)) else ((fX4_countShowing (o0 + 373) x2 σ).bind fun v27 => if v27 = 0 then (some (.inl (.inr x2, σ))) else (fX11_nextUncovered_l11 o0 n (x2 + (1 : Int32)) σ))
set_option maxRecDepth 100000 in
set_option maxHeartbeats 4000000 in
theorem bX11_nextUncovered_l11 {p : Program} {l : Launch} {e : Env} {s : State} {m : MethodId} {args : Array Value} {below : List Frame} {meth : Method} {c : Code} {E : Ev} {b : Nat} (C : Cx p l s m args meth c E cX11_nextUncovered 3 RX11 (some .int)) (hT : ∀ x ∈ c.exceptionTable.toList, False) (o0 : Nat) (ho0 : kd o0 = 11) (σ : Mem) (r0 : Rx) {q0 : Rx ⊕ (Int32)} (hr : ∀ r, q0 = .inl r → r = r0) (hx : ∀ q, q0 = .inr q → ∀ H locs ls, Wd E (LC E b) σ H → va_S (La (LC E b)) s.heap H locs → lv_has ls 3 [(0, .ref (b + o0)), (2, .int q)] → W p l e { frames := 7, cells := 1, slots := 6, locals := 114 } s m args below meth c H locs 1 6 (vx_MQ below (Qx E (LC E b) rvI r0) (Xx E (LC E b) r0) args s 1 6 (La (LC E b))) (F0 m 41 ls [])) : ∀ (n : Nat) (x2 : Int32), fX11_nextUncovered_l11 o0 n x2 σ = some q0 → ∀ (H : Heap) (locs : List Loc) (ls : Array Slot), Wd E (LC E b) σ H → va_S (La (LC E b)) s.heap H locs → lv_has ls 3 [(0, .ref (b + o0)), (2, .int x2)] → W p l e { frames := 7, cells := 1, slots := 6, locals := 114 } s m args below meth c H locs 1 6 (vx_MQ below (Qx E (LC E b) rvI r0) (Xx E (LC E b) r0) args s 1 6 (La (LC E b))) (F0 m 11 ls []) := by
  have hx0 := C.1
  have hb := C.2.1
  intro n
  induction n with
  | zero => intro x2 h; simp [fX11_nextUncovered_l11] at h
  | succ n ih =>
    intro x2 h H locs ls hW hS hl
    unfold fX11_nextUncovered_l11 at h
    refine lv_iload_n hx0 hb dX11_nextUncovered_11 rfl (lv_at hl 1 rfl) ?_
    refine lv_aload_n hx0 hb dX11_nextUncovered_12 rfl (lv_at hl 0 rfl) ?_
    refine gtX11_14 (k := o0) C hW ho0 flX11_87 dX11_nextUncovered_13 ?_
    obtain ⟨v16, h16, h⟩ := bnd h
    try dsimp only at h
    refine w_callV (L := (LC E b)) (k := o0 + 360) (As := []) (rest := [.int x2]) C hW hS (kdlt (chX11_14 ho0) (by decide)) (ccX2 (chX11_14 ho0)) kcX2 (mX2_size (o0 + 360) (chX11_14 ho0) σ v16 h16) cwX2_size cvX2_size rfl mlX11_363 ⟨by decide, by decide⟩ rfl hl.1 (Nat.le_of_ble_eq_true rfl) ⟨by decide, by decide⟩ dX11_nextUncovered_16 rfl (fun H locs hW hS => ?_)
    refine lv_icmp_ge (tgt := 41) hx0 hb dX11_nextUncovered_19 (by decide) (fun c19 => ?_) (fun c19 => ?_)
    · rw [if_pos c19] at h
      cases h
      exact hx _ rfl _ _ _ hW hS (lv_sub hl [0, 1] rfl)
    · rw [if_neg c19] at h
      refine lv_aload_n hx0 hb dX11_nextUncovered_22 rfl (lv_at hl 0 rfl) ?_
      refine gtX11_15 (k := o0) C hW ho0 flX11_94 dX11_nextUncovered_23 ?_
      refine lv_iload_n hx0 hb dX11_nextUncovered_26 rfl (lv_at hl 1 rfl) ?_
      obtain ⟨v27, h27, h⟩ := bnd h
      try dsimp only at h
      refine w_callV (L := (LC E b)) (k := o0 + 373) (As := [.int x2]) (rest := []) C hW hS (kdlt (chX11_15 ho0) (by decide)) (ccX4 (chX11_15 ho0)) kcX4 (mX4_countShowing (o0 + 373) x2 (chX11_15 ho0) σ v27 h27) cwX4_countShowing cvX4_countShowing rfl mlX11_420 ⟨by decide, by decide⟩ rfl hl.1 (Nat.le_of_ble_eq_true rfl) ⟨by decide, by decide⟩ dX11_nextUncovered_27 rfl (fun H locs hW hS => ?_)
      refine lv_if_ne (tgt := 35) hx0 hb dX11_nextUncovered_30 (by decide) (fun c30 => ?_) (fun c30 => ?_)
      · rw [if_neg c30] at h
        refine lv_iinc (v := x2 + (1 : Int32)) (lv' := [(2, .int (x2 + (1 : Int32))), (0, .ref (b + o0))]) hx0 hb dX11_nextUncovered_35 hl (k := 1) rfl rfl (by decide) rfl (fun ls hl => ?_)
        refine lv_goto (tgt := 11) hx0 hb dX11_nextUncovered_38 (by decide) ?_
        exact ih (x2 + (1 : Int32)) h _ _ _ hW hS (lv_sub hl [1, 0] rfl)
      · rw [if_pos c30] at h
        refine lv_iload_n hx0 hb dX11_nextUncovered_33 rfl (lv_at hl 1 rfl) ?_
        cases h
        cases hr _ rfl
        exact x_iret C hW hS (by decide) (by decide) dX11_nextUncovered_34
def fX11_nextUncovered (o0 : Nat) (x1 : Int32) (σ : Mem) : Option Rx :=
  (fX11_requireStartPlace o0 x1 σ).bind fun v2 => match v2.1 with | .inl n2 => some (.inl n2, v2.2) | .inr a2 => (fX11_followScans o0 v2.2).bind fun v6 => (fX11_nextUncovered_l11 o0 FU x1 v6).bind fun q11 => match q11 with | .inl r => some r | .inr q11 => some (.inr (-1 : Int32), v6)
set_option maxRecDepth 100000 in
set_option maxHeartbeats 4000000 in
theorem mX11_nextUncovered {l : Launch} {E : Ev} {b : Nat} (o0 : Nat) (x1 : Int32) (ho0 : kd o0 = 11) (σ : Mem) (r : Rx) (h : fX11_nextUncovered o0 x1 σ = some r) : vx_Met l yX11_nextUncovered (tw yX11_nextUncovered cX11_nextUncovered 3 (some .int)) { frames := 7, cells := 1, slots := 6, locals := 114 } (va_Pc [.ref (b + o0), .int x1] (Pr l E (LC E b) σ)) (Qx E (LC E b) rvI r) (Xx E (LC E b) r) 1 6 (La (LC E b)) := by
  refine cx_of (by decide) (Nat.le_of_ble_eq_true rfl) ?_
  intro p e s m below meth c C hT hW hS ls hl
  have hx0 := C.1
  have hb := C.2.1
  have hl : lv_has ls 3 [(0, .ref (b + o0)), (1, .int x1)] := hl
  unfold fX11_nextUncovered at h
  refine lv_aload_n hx0 hb dX11_nextUncovered_0 rfl (lv_at hl 0 rfl) ?_
  refine lv_iload_n hx0 hb dX11_nextUncovered_1 rfl (lv_at hl 1 rfl) ?_
  obtain ⟨v2, h2, h⟩ := bnd h
  try dsimp only at h
  refine x_callV (L := (LC E b)) (k := o0) (As := [.int x1]) (rest := []) C hW hS (kdlt ho0 (by decide)) (ccX11 ho0) kcX11 (mX11_requireStartPlace o0 x1 ho0 σ v2 h2) cwX11_requireStartPlace cvX11_requireStartPlace rfl mlX11_389 ⟨by decide, by decide⟩ rfl hl.1 (Nat.le_of_ble_eq_true rfl) ⟨by decide, by decide⟩ dX11_nextUncovered_2 rfl (fun n2 e2 H locs q ce hW hS hq hv hc => by rw [e2] at h; (try dsimp only at h); cases h; exact x_out C hT hW hS hq hv hc (by decide) (by decide)) (fun a2 e2 H locs hW hS => ?_)
  rw [e2] at h
  try dsimp only at h
  refine lv_aload_n hx0 hb dX11_nextUncovered_5 rfl (lv_at hl 0 rfl) ?_
  obtain ⟨v6, h6, h⟩ := bnd h
  try dsimp only at h
  refine w_callV (L := (LC E b)) (k := o0) (As := []) (rest := []) C hW hS (kdlt ho0 (by decide)) (ccX11 ho0) kcX11 (mX11_followScans o0 ho0 v2.2 v6 h6) cwX11_followScans cvX11_followScans rfl mlX11_278 ⟨by decide, by decide⟩ rfl hl.1 (Nat.le_of_ble_eq_true rfl) ⟨by decide, by decide⟩ dX11_nextUncovered_6 rfl (fun H locs hW hS => ?_)
  refine lv_iload_n hx0 hb dX11_nextUncovered_9 rfl (lv_at hl 1 rfl) ?_
  refine lv_istore_n (lv' := [(2, .int x1), (0, .ref (b + o0)), (1, .int x1)]) hx0 hb dX11_nextUncovered_10 rfl hl (by decide) rfl (fun ls hl => ?_)
  obtain ⟨q11, h11, h⟩ := bnd h
  refine bX11_nextUncovered_l11 C hT o0 ho0 v6 r (q0 := q11) ?_ ?_ FU x1 h11 _ _ _ hW hS (lv_sub hl [1, 0] rfl)
  · intro r1 hq; subst hq; (try dsimp only at h); exact Option.some.inj h
  · intro q11 hq H locs ls hW hS hl
    subst hq; try dsimp only at h
    refine lv_iconst (v := (-1 : Int32)) hx0 hb dX11_nextUncovered_41 (by decide) ?_
    cases h
    exact x_iret C hW hS (by decide) (by decide) dX11_nextUncovered_42
def fX11_needless (o0 : Nat) (σ : Mem) : Option (Int32 × Mem) :=
  (fX11_followScans o0 σ).bind fun v1 => (fX4_countNeedless (o0 + 373) v1).bind fun v8 => some (v8.1, v8.2)
set_option maxRecDepth 100000 in
set_option maxHeartbeats 4000000 in
theorem mX11_needless {l : Launch} {E : Ev} {b : Nat} (o0 : Nat) (ho0 : kd o0 = 11) (σ : Mem) (r : (Int32 × Mem)) (h : fX11_needless o0 σ = some r) : Met l yX11_needless (tw yX11_needless cX11_needless 1 (some .int)) { frames := 5, cells := 0, slots := 0, locals := 113 } (va_Pc [.ref (b + o0)] (Pr l E (LC E b) σ)) (Qz E (LC E b) (some (.int r.1)) r.2) 0 0 (La (LC E b)) := by
  refine ct_of (by decide) (Nat.le_of_ble_eq_true rfl) ?_
  intro p e s m below meth c C hW hS ls hl
  have hx0 := C.1
  have hb := C.2.1
  have hl : lv_has ls 1 [(0, .ref (b + o0))] := hl
  unfold fX11_needless at h
  refine lv_aload_n hx0 hb dX11_needless_0 rfl (lv_at hl 0 rfl) ?_
  obtain ⟨v1, h1, h⟩ := bnd h
  try dsimp only at h
  refine w_callV (L := (LC E b)) (k := o0) (As := []) (rest := []) C hW hS (kdlt ho0 (by decide)) (ccX11 ho0) kcX11 (mX11_followScans o0 ho0 σ v1 h1) cwX11_followScans cvX11_followScans rfl mlX11_278 ⟨by decide, by decide⟩ rfl hl.1 (Nat.le_of_ble_eq_true rfl) ⟨by decide, by decide⟩ dX11_needless_1 rfl (fun H locs hW hS => ?_)
  refine lv_aload_n hx0 hb dX11_needless_4 rfl (lv_at hl 0 rfl) ?_
  refine gtX11_15 (k := o0) C hW ho0 flX11_94 dX11_needless_5 ?_
  obtain ⟨v8, h8, h⟩ := bnd h
  try dsimp only at h
  refine w_callV (L := (LC E b)) (k := o0 + 373) (As := []) (rest := []) C hW hS (kdlt (chX11_15 ho0) (by decide)) (ccX4 (chX11_15 ho0)) kcX4 (mX4_countNeedless (o0 + 373) (chX11_15 ho0) v1 v8 h8) cwX4_countNeedless cvX4_countNeedless rfl mlX11_423 ⟨by decide, by decide⟩ rfl hl.1 (Nat.le_of_ble_eq_true rfl) ⟨by decide, by decide⟩ dX11_needless_8 rfl (fun H locs hW hS => ?_)
  cases h
  exact w_iret C hW hS dX11_needless_11
def fX11_movesToOrder (o0 : Nat) (σ : Mem) : Option (Int32 × Mem) :=
  (fX11_followScans o0 σ).bind fun v1 => (fX4_countMoves (o0 + 373) v1).bind fun v8 => some (v8.1, v8.2)
set_option maxRecDepth 100000 in
set_option maxHeartbeats 4000000 in
theorem mX11_movesToOrder {l : Launch} {E : Ev} {b : Nat} (o0 : Nat) (ho0 : kd o0 = 11) (σ : Mem) (r : (Int32 × Mem)) (h : fX11_movesToOrder o0 σ = some r) : Met l yX11_movesToOrder (tw yX11_movesToOrder cX11_movesToOrder 1 (some .int)) { frames := 5, cells := 0, slots := 0, locals := 113 } (va_Pc [.ref (b + o0)] (Pr l E (LC E b) σ)) (Qz E (LC E b) (some (.int r.1)) r.2) 0 0 (La (LC E b)) := by
  refine ct_of (by decide) (Nat.le_of_ble_eq_true rfl) ?_
  intro p e s m below meth c C hW hS ls hl
  have hx0 := C.1
  have hb := C.2.1
  have hl : lv_has ls 1 [(0, .ref (b + o0))] := hl
  unfold fX11_movesToOrder at h
  refine lv_aload_n hx0 hb dX11_movesToOrder_0 rfl (lv_at hl 0 rfl) ?_
  obtain ⟨v1, h1, h⟩ := bnd h
  try dsimp only at h
  refine w_callV (L := (LC E b)) (k := o0) (As := []) (rest := []) C hW hS (kdlt ho0 (by decide)) (ccX11 ho0) kcX11 (mX11_followScans o0 ho0 σ v1 h1) cwX11_followScans cvX11_followScans rfl mlX11_278 ⟨by decide, by decide⟩ rfl hl.1 (Nat.le_of_ble_eq_true rfl) ⟨by decide, by decide⟩ dX11_movesToOrder_1 rfl (fun H locs hW hS => ?_)
  refine lv_aload_n hx0 hb dX11_movesToOrder_4 rfl (lv_at hl 0 rfl) ?_
  refine gtX11_15 (k := o0) C hW ho0 flX11_94 dX11_movesToOrder_5 ?_
  obtain ⟨v8, h8, h⟩ := bnd h
  try dsimp only at h
  refine w_callV (L := (LC E b)) (k := o0 + 373) (As := []) (rest := []) C hW hS (kdlt (chX11_15 ho0) (by decide)) (ccX4 (chX11_15 ho0)) kcX4 (mX4_countMoves (o0 + 373) (chX11_15 ho0) v1 v8 h8) cwX4_countMoves cvX4_countMoves rfl mlX11_429 ⟨by decide, by decide⟩ rfl hl.1 (Nat.le_of_ble_eq_true rfl) ⟨by decide, by decide⟩ dX11_movesToOrder_8 rfl (fun H locs hW hS => ?_)
  cases h
  exact w_iret C hW hS dX11_movesToOrder_11
def fX11_longestRun (o0 : Nat) (σ : Mem) : Option (Int32 × Mem) :=
  (fX11_followScans o0 σ).bind fun v1 => (fX4_longestRising (o0 + 373) v1).bind fun v8 => some (v8, v1)
set_option maxRecDepth 100000 in
set_option maxHeartbeats 4000000 in
theorem mX11_longestRun {l : Launch} {E : Ev} {b : Nat} (o0 : Nat) (ho0 : kd o0 = 11) (σ : Mem) (r : (Int32 × Mem)) (h : fX11_longestRun o0 σ = some r) : Met l yX11_longestRun (tw yX11_longestRun cX11_longestRun 1 (some .int)) { frames := 5, cells := 0, slots := 0, locals := 113 } (va_Pc [.ref (b + o0)] (Pr l E (LC E b) σ)) (Qz E (LC E b) (some (.int r.1)) r.2) 0 0 (La (LC E b)) := by
  refine ct_of (by decide) (Nat.le_of_ble_eq_true rfl) ?_
  intro p e s m below meth c C hW hS ls hl
  have hx0 := C.1
  have hb := C.2.1
  have hl : lv_has ls 1 [(0, .ref (b + o0))] := hl
  unfold fX11_longestRun at h
  refine lv_aload_n hx0 hb dX11_longestRun_0 rfl (lv_at hl 0 rfl) ?_
  obtain ⟨v1, h1, h⟩ := bnd h
  try dsimp only at h
  refine w_callV (L := (LC E b)) (k := o0) (As := []) (rest := []) C hW hS (kdlt ho0 (by decide)) (ccX11 ho0) kcX11 (mX11_followScans o0 ho0 σ v1 h1) cwX11_followScans cvX11_followScans rfl mlX11_278 ⟨by decide, by decide⟩ rfl hl.1 (Nat.le_of_ble_eq_true rfl) ⟨by decide, by decide⟩ dX11_longestRun_1 rfl (fun H locs hW hS => ?_)
  refine lv_aload_n hx0 hb dX11_longestRun_4 rfl (lv_at hl 0 rfl) ?_
  refine gtX11_15 (k := o0) C hW ho0 flX11_94 dX11_longestRun_5 ?_
  obtain ⟨v8, h8, h⟩ := bnd h
  try dsimp only at h
  refine w_callV (L := (LC E b)) (k := o0 + 373) (As := []) (rest := []) C hW hS (kdlt (chX11_15 ho0) (by decide)) (ccX4 (chX11_15 ho0)) kcX4 (mX4_longestRising (o0 + 373) (chX11_15 ho0) v1 v8 h8) cwX4_longestRising cvX4_longestRising rfl mlX11_432 ⟨by decide, by decide⟩ rfl hl.1 (Nat.le_of_ble_eq_true rfl) ⟨by decide, by decide⟩ dX11_longestRun_8 rfl (fun H locs hW hS => ?_)
  cases h
  exact w_iret C hW hS dX11_longestRun_11
def fX11_firstMisplaced (o0 : Nat) (σ : Mem) : Option Rx :=
  (fX11_followScans o0 σ).bind fun v1 => (fX4_firstFalling (o0 + 373) v1).bind fun v8 => if v8 = (-1 : Int32) then (some (.inl 3, v1)) else (some (.inr v8, v1))
set_option maxRecDepth 100000 in
set_option maxHeartbeats 4000000 in
theorem mX11_firstMisplaced {l : Launch} {E : Ev} {b : Nat} (o0 : Nat) (ho0 : kd o0 = 11) (σ : Mem) (r : Rx) (h : fX11_firstMisplaced o0 σ = some r) : vx_Met l yX11_firstMisplaced (tw yX11_firstMisplaced cX11_firstMisplaced 2 (some .int)) { frames := 6, cells := 1, slots := 6, locals := 113 } (va_Pc [.ref (b + o0)] (Pr l E (LC E b) σ)) (Qx E (LC E b) rvI r) (Xx E (LC E b) r) 1 6 (La (LC E b)) := by
  refine cx_of (by decide) (Nat.le_of_ble_eq_true rfl) ?_
  intro p e s m below meth c C hT hW hS ls hl
  have hx0 := C.1
  have hb := C.2.1
  have hl : lv_has ls 2 [(0, .ref (b + o0))] := hl
  unfold fX11_firstMisplaced at h
  refine lv_aload_n hx0 hb dX11_firstMisplaced_0 rfl (lv_at hl 0 rfl) ?_
  obtain ⟨v1, h1, h⟩ := bnd h
  try dsimp only at h
  refine w_callV (L := (LC E b)) (k := o0) (As := []) (rest := []) C hW hS (kdlt ho0 (by decide)) (ccX11 ho0) kcX11 (mX11_followScans o0 ho0 σ v1 h1) cwX11_followScans cvX11_followScans rfl mlX11_278 ⟨by decide, by decide⟩ rfl hl.1 (Nat.le_of_ble_eq_true rfl) ⟨by decide, by decide⟩ dX11_firstMisplaced_1 rfl (fun H locs hW hS => ?_)
  refine lv_aload_n hx0 hb dX11_firstMisplaced_4 rfl (lv_at hl 0 rfl) ?_
  refine gtX11_15 (k := o0) C hW ho0 flX11_94 dX11_firstMisplaced_5 ?_
  obtain ⟨v8, h8, h⟩ := bnd h
  try dsimp only at h
  refine w_callV (L := (LC E b)) (k := o0 + 373) (As := []) (rest := []) C hW hS (kdlt (chX11_15 ho0) (by decide)) (ccX4 (chX11_15 ho0)) kcX4 (mX4_firstFalling (o0 + 373) (chX11_15 ho0) v1 v8 h8) cwX4_firstFalling cvX4_firstFalling rfl mlX11_435 ⟨by decide, by decide⟩ rfl hl.1 (Nat.le_of_ble_eq_true rfl) ⟨by decide, by decide⟩ dX11_firstMisplaced_8 rfl (fun H locs hW hS => ?_)
  refine lv_istore_n (lv' := [(1, .int v8), (0, .ref (b + o0))]) hx0 hb dX11_firstMisplaced_11 rfl hl (by decide) rfl (fun ls hl => ?_)
  refine lv_iload_n hx0 hb dX11_firstMisplaced_12 rfl (lv_at hl 0 rfl) ?_
  refine lv_iconst (v := (-1 : Int32)) hx0 hb dX11_firstMisplaced_13 (by decide) ?_
  refine lv_icmp_ne (tgt := 28) hx0 hb dX11_firstMisplaced_14 (by decide) (fun c14 => ?_) (fun c14 => ?_)
  · rw [if_neg c14] at h
    refine lv_iload_n hx0 hb dX11_firstMisplaced_28 rfl (lv_at hl 0 rfl) ?_
    cases h
    exact x_iret C hW hS (by decide) (by decide) dX11_firstMisplaced_29
  · rw [if_pos c14] at h
    cases h
    exact x_throwN (si := 51) C hT rfl hW hS hl.1 ⟨by decide, Nat.le_of_ble_eq_true rfl⟩ ⟨by decide, by decide⟩ (by decide) (by decide) dX11_firstMisplaced_17 dX11_firstMisplaced_20 dX11_firstMisplaced_21 dX11_firstMisplaced_24 dX11_firstMisplaced_27
def fX11_undo (o0 : Nat) (σ : Mem) : Option Rx :=
  (fX0_size (o0 + 79) σ).bind fun v4 => if v4 = 0 then (some (.inl 0, σ)) else ((fX0_takeBack (o0 + 79) (o0 + 41) σ).bind fun v29 => (fX0_size (o0 + 79) v29).bind fun v36 => some (.inr v36, v29))
set_option maxRecDepth 100000 in
set_option maxHeartbeats 4000000 in
theorem mX11_undo {l : Launch} {E : Ev} {b : Nat} (o0 : Nat) (ho0 : kd o0 = 11) (σ : Mem) (r : Rx) (h : fX11_undo o0 σ = some r) : vx_Met l yX11_undo (tw yX11_undo cX11_undo 1 (some .int)) { frames := 6, cells := 1, slots := 6, locals := 127 } (va_Pc [.ref (b + o0)] (Pr l E (LC E b) σ)) (Qx E (LC E b) rvI r) (Xx E (LC E b) r) 1 6 (La (LC E b)) := by
  refine cx_of (by decide) (Nat.le_of_ble_eq_true rfl) ?_
  intro p e s m below meth c C hT hW hS ls hl
  have hx0 := C.1
  have hb := C.2.1
  have hl : lv_has ls 1 [(0, .ref (b + o0))] := hl
  unfold fX11_undo at h
  refine lv_aload_n hx0 hb dX11_undo_0 rfl (lv_at hl 0 rfl) ?_
  refine gtX11_11 (k := o0) C hW ho0 flX11_73 dX11_undo_1 ?_
  obtain ⟨v4, h4, h⟩ := bnd h
  try dsimp only at h
  refine w_callV (L := (LC E b)) (k := o0 + 79) (As := []) (rest := []) C hW hS (kdlt (chX11_11 ho0) (by decide)) (ccX0 (chX11_11 ho0)) kcX0 (mX0_size (o0 + 79) (chX11_11 ho0) σ v4 h4) cwX0_size cvX0_size rfl mlX11_446 ⟨by decide, by decide⟩ rfl hl.1 (Nat.le_of_ble_eq_true rfl) ⟨by decide, by decide⟩ dX11_undo_4 rfl (fun H locs hW hS => ?_)
  refine lv_if_ne (tgt := 21) hx0 hb dX11_undo_7 (by decide) (fun c7 => ?_) (fun c7 => ?_)
  · rw [if_neg c7] at h
    refine lv_aload_n hx0 hb dX11_undo_21 rfl (lv_at hl 0 rfl) ?_
    refine gtX11_11 (k := o0) C hW ho0 flX11_73 dX11_undo_22 ?_
    refine lv_aload_n hx0 hb dX11_undo_25 rfl (lv_at hl 0 rfl) ?_
    refine gtX11_5 (k := o0) C hW ho0 flX11_40 dX11_undo_26 ?_
    obtain ⟨v29, h29, h⟩ := bnd h
    try dsimp only at h
    refine w_callV (L := (LC E b)) (k := o0 + 79) (As := [.ref (b + (o0 + 41))]) (rest := []) C hW hS (kdlt (chX11_11 ho0) (by decide)) (ccX0 (chX11_11 ho0)) kcX0 (mX0_takeBack (o0 + 79) (o0 + 41) (chX11_11 ho0) (chX11_5 ho0) σ v29 h29) cwX0_takeBack cvX0_takeBack rfl mlX11_449 ⟨by decide, by decide⟩ rfl hl.1 (Nat.le_of_ble_eq_true rfl) ⟨by decide, by decide⟩ dX11_undo_29 rfl (fun H locs hW hS => ?_)
    refine lv_aload_n hx0 hb dX11_undo_32 rfl (lv_at hl 0 rfl) ?_
    refine gtX11_11 (k := o0) C hW ho0 flX11_73 dX11_undo_33 ?_
    obtain ⟨v36, h36, h⟩ := bnd h
    try dsimp only at h
    refine w_callV (L := (LC E b)) (k := o0 + 79) (As := []) (rest := []) C hW hS (kdlt (chX11_11 ho0) (by decide)) (ccX0 (chX11_11 ho0)) kcX0 (mX0_size (o0 + 79) (chX11_11 ho0) v29 v36 h36) cwX0_size cvX0_size rfl mlX11_446 ⟨by decide, by decide⟩ rfl hl.1 (Nat.le_of_ble_eq_true rfl) ⟨by decide, by decide⟩ dX11_undo_36 rfl (fun H locs hW hS => ?_)
    cases h
    exact x_iret C hW hS (by decide) (by decide) dX11_undo_39
  · rw [if_pos c7] at h
    cases h
    exact x_throwW (n := 0) (si := 52) C hT (by decide +kernel) xat0 xgd0 xcl0 xin0 rfl hW hS hl.1 ⟨by decide, Nat.le_of_ble_eq_true rfl⟩ ⟨by decide, by decide⟩ (by decide) (by decide) dX11_undo_10 dX11_undo_13 dX11_undo_14 dX11_undo_17 dX11_undo_20
def fX11_undoCount (o0 : Nat) (σ : Mem) : Option Int32 :=
  (fX0_size (o0 + 79) σ).bind fun v4 => some v4
set_option maxRecDepth 100000 in
set_option maxHeartbeats 4000000 in
theorem mX11_undoCount {l : Launch} {E : Ev} {b : Nat} (o0 : Nat) (ho0 : kd o0 = 11) (σ : Mem) (r : Int32) (h : fX11_undoCount o0 σ = some r) : Met l yX11_undoCount (tw yX11_undoCount cX11_undoCount 1 (some .int)) { frames := 1, cells := 0, slots := 0, locals := 20 } (va_Pc [.ref (b + o0)] (Pr l E (LC E b) σ)) (Qz E (LC E b) (some (.int r)) σ) 0 0 (La (LC E b)) := by
  refine ct_of (by decide) (Nat.le_of_ble_eq_true rfl) ?_
  intro p e s m below meth c C hW hS ls hl
  have hx0 := C.1
  have hb := C.2.1
  have hl : lv_has ls 1 [(0, .ref (b + o0))] := hl
  unfold fX11_undoCount at h
  refine lv_aload_n hx0 hb dX11_undoCount_0 rfl (lv_at hl 0 rfl) ?_
  refine gtX11_11 (k := o0) C hW ho0 flX11_73 dX11_undoCount_1 ?_
  obtain ⟨v4, h4, h⟩ := bnd h
  try dsimp only at h
  refine w_callV (L := (LC E b)) (k := o0 + 79) (As := []) (rest := []) C hW hS (kdlt (chX11_11 ho0) (by decide)) (ccX0 (chX11_11 ho0)) kcX0 (mX0_size (o0 + 79) (chX11_11 ho0) σ v4 h4) cwX0_size cvX0_size rfl mlX11_446 ⟨by decide, by decide⟩ rfl hl.1 (Nat.le_of_ble_eq_true rfl) ⟨by decide, by decide⟩ dX11_undoCount_4 rfl (fun H locs hW hS => ?_)
  cases h
  exact w_iret C hW hS dX11_undoCount_7
def fX11_save (o0 : Nat) (σ : Mem) : Option (Int32 × Mem) :=
  (fX7_copyFrom (o0 + 329) (o0 + 41) σ).bind fun v8 => (fX5_size (o0 + 62) (up v8 o0 13 (1 : Int32))).bind fun v20 => some (v20, up v8 o0 13 (1 : Int32))
set_option maxRecDepth 100000 in
set_option maxHeartbeats 4000000 in
theorem mX11_save {l : Launch} {E : Ev} {b : Nat} (o0 : Nat) (ho0 : kd o0 = 11) (σ : Mem) (r : (Int32 × Mem)) (h : fX11_save o0 σ = some r) : Met l yX11_save (tw yX11_save cX11_save 1 (some .int)) { frames := 4, cells := 0, slots := 0, locals := 104 } (va_Pc [.ref (b + o0)] (Pr l E (LC E b) σ)) (Qz E (LC E b) (some (.int r.1)) r.2) 0 0 (La (LC E b)) := by
  refine ct_of (by decide) (Nat.le_of_ble_eq_true rfl) ?_
  intro p e s m below meth c C hW hS ls hl
  have hx0 := C.1
  have hb := C.2.1
  have hl : lv_has ls 1 [(0, .ref (b + o0))] := hl
  unfold fX11_save at h
  refine lv_aload_n hx0 hb dX11_save_0 rfl (lv_at hl 0 rfl) ?_
  refine gtX11_12 (k := o0) C hW ho0 flX11_77 dX11_save_1 ?_
  refine lv_aload_n hx0 hb dX11_save_4 rfl (lv_at hl 0 rfl) ?_
  refine gtX11_5 (k := o0) C hW ho0 flX11_40 dX11_save_5 ?_
  obtain ⟨v8, h8, h⟩ := bnd h
  try dsimp only at h
  refine w_callV (L := (LC E b)) (k := o0 + 329) (As := [.ref (b + (o0 + 41))]) (rest := []) C hW hS (kdlt (chX11_12 ho0) (by decide)) (ccX7 (chX11_12 ho0)) kcX7 (mX7_copyFrom (o0 + 329) (o0 + 41) (chX11_12 ho0) (chX11_5 ho0) σ v8 h8) cwX7_copyFrom cvX7_copyFrom rfl mlX11_137 ⟨by decide, by decide⟩ rfl hl.1 (Nat.le_of_ble_eq_true rfl) ⟨by decide, by decide⟩ dX11_save_8 rfl (fun H locs hW hS => ?_)
  refine lv_aload_n hx0 hb dX11_save_11 rfl (lv_at hl 0 rfl) ?_
  refine lv_iconst (v := (1 : Int32)) hx0 hb dX11_save_12 (by decide) ?_
  refine ptX11_13 (k := o0) (Or.inr rfl) C hW hS ho0 flX11_80 dX11_save_13 (fun H locs hW hS => ?_)
  refine lv_aload_n hx0 hb dX11_save_16 rfl (lv_at hl 0 rfl) ?_
  refine gtX11_8 (k := o0) C hW ho0 flX11_58 dX11_save_17 ?_
  obtain ⟨v20, h20, h⟩ := bnd h
  try dsimp only at h
  refine w_callV (L := (LC E b)) (k := o0 + 62) (As := []) (rest := []) C hW hS (kdlt (chX11_8 ho0) (by decide)) (ccX5 (chX11_8 ho0)) kcX5 (mX5_size (o0 + 62) (chX11_8 ho0) (up v8 o0 13 (1 : Int32)) v20 h20) cwX5_size cvX5_size rfl mlX11_261 ⟨by decide, by decide⟩ rfl hl.1 (Nat.le_of_ble_eq_true rfl) ⟨by decide, by decide⟩ dX11_save_20 rfl (fun H locs hW hS => ?_)
  cases h
  exact w_iret C hW hS dX11_save_23
def fX11_restore (o0 : Nat) (σ : Mem) : Option Rx :=
  if (σ o0 13) = 0 then (some (.inl 0, σ)) else ((fX7_copyFrom (o0 + 41) (o0 + 329) σ).bind fun v26 => (fX0_clear (o0 + 79) v26).bind fun v33 => (fX5_size (o0 + 62) v33).bind fun v40 => some (.inr v40, v33))
set_option maxRecDepth 100000 in
set_option maxHeartbeats 4000000 in
theorem mX11_restore {l : Launch} {E : Ev} {b : Nat} (o0 : Nat) (ho0 : kd o0 = 11) (σ : Mem) (r : Rx) (h : fX11_restore o0 σ = some r) : vx_Met l yX11_restore (tw yX11_restore cX11_restore 1 (some .int)) { frames := 6, cells := 1, slots := 6, locals := 104 } (va_Pc [.ref (b + o0)] (Pr l E (LC E b) σ)) (Qx E (LC E b) rvI r) (Xx E (LC E b) r) 1 6 (La (LC E b)) := by
  refine cx_of (by decide) (Nat.le_of_ble_eq_true rfl) ?_
  intro p e s m below meth c C hT hW hS ls hl
  have hx0 := C.1
  have hb := C.2.1
  have hl : lv_has ls 1 [(0, .ref (b + o0))] := hl
  unfold fX11_restore at h
  refine lv_aload_n hx0 hb dX11_restore_0 rfl (lv_at hl 0 rfl) ?_
  refine gtX11_13 (k := o0) C hW ho0 flX11_80 dX11_restore_1 ?_
  refine lv_if_ne (tgt := 18) hx0 hb dX11_restore_4 (by decide) (fun c4 => ?_) (fun c4 => ?_)
  · rw [if_neg c4] at h
    refine lv_aload_n hx0 hb dX11_restore_18 rfl (lv_at hl 0 rfl) ?_
    refine gtX11_5 (k := o0) C hW ho0 flX11_40 dX11_restore_19 ?_
    refine lv_aload_n hx0 hb dX11_restore_22 rfl (lv_at hl 0 rfl) ?_
    refine gtX11_12 (k := o0) C hW ho0 flX11_77 dX11_restore_23 ?_
    obtain ⟨v26, h26, h⟩ := bnd h
    try dsimp only at h
    refine w_callV (L := (LC E b)) (k := o0 + 41) (As := [.ref (b + (o0 + 329))]) (rest := []) C hW hS (kdlt (chX11_5 ho0) (by decide)) (ccX7 (chX11_5 ho0)) kcX7 (mX7_copyFrom (o0 + 41) (o0 + 329) (chX11_5 ho0) (chX11_12 ho0) σ v26 h26) cwX7_copyFrom cvX7_copyFrom rfl mlX11_137 ⟨by decide, by decide⟩ rfl hl.1 (Nat.le_of_ble_eq_true rfl) ⟨by decide, by decide⟩ dX11_restore_26 rfl (fun H locs hW hS => ?_)
    refine lv_aload_n hx0 hb dX11_restore_29 rfl (lv_at hl 0 rfl) ?_
    refine gtX11_11 (k := o0) C hW ho0 flX11_73 dX11_restore_30 ?_
    obtain ⟨v33, h33, h⟩ := bnd h
    try dsimp only at h
    refine w_callV (L := (LC E b)) (k := o0 + 79) (As := []) (rest := []) C hW hS (kdlt (chX11_11 ho0) (by decide)) (ccX0 (chX11_11 ho0)) kcX0 (mX0_clear (o0 + 79) (chX11_11 ho0) v26 v33 h33) cwX0_clear cvX0_clear rfl mlX11_141 ⟨by decide, by decide⟩ rfl hl.1 (Nat.le_of_ble_eq_true rfl) ⟨by decide, by decide⟩ dX11_restore_33 rfl (fun H locs hW hS => ?_)
    refine lv_aload_n hx0 hb dX11_restore_36 rfl (lv_at hl 0 rfl) ?_
    refine gtX11_8 (k := o0) C hW ho0 flX11_58 dX11_restore_37 ?_
    obtain ⟨v40, h40, h⟩ := bnd h
    try dsimp only at h
    refine w_callV (L := (LC E b)) (k := o0 + 62) (As := []) (rest := []) C hW hS (kdlt (chX11_8 ho0) (by decide)) (ccX5 (chX11_8 ho0)) kcX5 (mX5_size (o0 + 62) (chX11_8 ho0) v33 v40 h40) cwX5_size cvX5_size rfl mlX11_261 ⟨by decide, by decide⟩ rfl hl.1 (Nat.le_of_ble_eq_true rfl) ⟨by decide, by decide⟩ dX11_restore_40 rfl (fun H locs hW hS => ?_)
    cases h
    exact x_iret C hW hS (by decide) (by decide) dX11_restore_43
  · rw [if_pos c4] at h
    cases h
    exact x_throwW (n := 0) (si := 53) C hT (by decide +kernel) xat0 xgd0 xcl0 xin0 rfl hW hS hl.1 ⟨by decide, Nat.le_of_ble_eq_true rfl⟩ ⟨by decide, by decide⟩ (by decide) (by decide) dX11_restore_7 dX11_restore_10 dX11_restore_11 dX11_restore_14 dX11_restore_17
