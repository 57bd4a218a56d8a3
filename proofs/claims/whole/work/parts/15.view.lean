/-! PageArchive$View, by program out of the bytecode -/
def fX9_reset (o0 : Nat) (σ : Mem) : Option Mem :=
  some (up (up σ o0 1 (0 : Int32)) o0 2 (0 : Int32))
set_option maxRecDepth 100000 in
set_option maxHeartbeats 4000000 in
theorem mX9_reset {l : Launch} {E : Ev} {b : Nat} (o0 : Nat) (ho0 : kd o0 = 9) (σ : Mem) (r : Mem) (h : fX9_reset o0 σ = some r) : Met l yX9_reset (tw yX9_reset cX9_reset 1 none) { frames := 0, cells := 0, slots := 0, locals := 0 } (va_Pc [.ref (b + o0)] (Pr l E (LC E b) σ)) (Qz E (LC E b) none r) 0 0 (La (LC E b)) := by
  refine ct_of (by decide) (Nat.le_of_ble_eq_true rfl) ?_
  intro p e s m below meth c C hW hS ls hl
  have hx0 := C.1
  have hb := C.2.1
  have hl : lv_has ls 1 [(0, .ref (b + o0))] := hl
  unfold fX9_reset at h
  refine lv_aload_n hx0 hb dX9_reset_0 rfl (lv_at hl 0 rfl) ?_
  refine lv_iconst (v := (0 : Int32)) hx0 hb dX9_reset_1 (by decide) ?_
  refine ptX9_1 (k := o0) C hW hS ho0 flX9_20 dX9_reset_2 (fun H locs hW hS => ?_)
  refine lv_aload_n hx0 hb dX9_reset_5 rfl (lv_at hl 0 rfl) ?_
  refine lv_iconst (v := (0 : Int32)) hx0 hb dX9_reset_6 (by decide) ?_
  refine ptX9_2 (k := o0) C hW hS ho0 flX9_24 dX9_reset_7 (fun H locs hW hS => ?_)
  cases h
  exact w_vret C hW hS dX9_reset_10
def fX9_copyFrom (o0 : Nat) (o1 : Nat) (σ : Mem) : Option Mem :=
  (fX3_copyFrom (o0 + 1) (o1 + 1) σ).bind fun v8 => some (up (up v8 o0 1 (v8 o1 1)) o0 2 ((up v8 o0 1 (v8 o1 1)) o1 2))
set_option maxRecDepth 100000 in
set_option maxHeartbeats 4000000 in
theorem mX9_copyFrom {l : Launch} {E : Ev} {b : Nat} (o0 : Nat) (o1 : Nat) (ho0 : kd o0 = 9) (ho1 : kd o1 = 9) (σ : Mem) (r : Mem) (h : fX9_copyFrom o0 o1 σ = some r) : Met l yX9_copyFrom (tw yX9_copyFrom cX9_copyFrom 2 none) { frames := 2, cells := 0, slots := 0, locals := 62 } (va_Pc [.ref (b + o0), .ref (b + o1)] (Pr l E (LC E b) σ)) (Qz E (LC E b) none r) 0 0 (La (LC E b)) := by
  refine ct_of (by decide) (Nat.le_of_ble_eq_true rfl) ?_
  intro p e s m below meth c C hW hS ls hl
  have hx0 := C.1
  have hb := C.2.1
  have hl : lv_has ls 2 [(0, .ref (b + o0)), (1, .ref (b + o1))] := hl
  unfold fX9_copyFrom at h
  refine lv_aload_n hx0 hb dX9_copyFrom_0 rfl (lv_at hl 0 rfl) ?_
  refine gtX9_0 (k := o0) C hW ho0 flX9_14 dX9_copyFrom_1 ?_
  refine lv_aload_n hx0 hb dX9_copyFrom_4 rfl (lv_at hl 1 rfl) ?_
  refine gtX9_0 (k := o1) C hW ho1 flX9_14 dX9_copyFrom_5 ?_
  obtain ⟨v8, h8, h⟩ := bnd h
  try dsimp only at h
  refine w_callV (L := (LC E b)) (k := o0 + 1) (As := [.ref (b + (o1 + 1))]) (rest := []) C hW hS (kdlt (chX9_0 ho0) (by decide)) (ccX3 (chX9_0 ho0)) kcX3 (mX3_copyFrom (o0 + 1) (o1 + 1) (chX9_0 ho0) (chX9_0 ho1) σ v8 h8) cwX3_copyFrom cvX3_copyFrom rfl mlX9_27 ⟨by decide, by decide⟩ rfl hl.1 (Nat.le_of_ble_eq_true rfl) ⟨by decide, by decide⟩ dX9_copyFrom_8 rfl (fun H locs hW hS => ?_)
  refine lv_aload_n hx0 hb dX9_copyFrom_11 rfl (lv_at hl 0 rfl) ?_
  refine lv_aload_n hx0 hb dX9_copyFrom_12 rfl (lv_at hl 1 rfl) ?_
  refine gtX9_1 (k := o1) C hW ho1 flX9_20 dX9_copyFrom_13 ?_
  refine ptX9_1 (k := o0) C hW hS ho0 flX9_20 dX9_copyFrom_16 (fun H locs hW hS => ?_)
  refine lv_aload_n hx0 hb dX9_copyFrom_19 rfl (lv_at hl 0 rfl) ?_
  refine lv_aload_n hx0 hb dX9_copyFrom_20 rfl (lv_at hl 1 rfl) ?_
  refine gtX9_2 (k := o1) C hW ho1 flX9_24 dX9_copyFrom_21 ?_
  refine ptX9_2 (k := o0) C hW hS ho0 flX9_24 dX9_copyFrom_24 (fun H locs hW hS => ?_)
  cases h
  exact w_vret C hW hS dX9_copyFrom_27
def fX9_current (o0 : Nat) (σ : Mem) : Option Int32 :=
  some (σ o0 2)
set_option maxRecDepth 100000 in
set_option maxHeartbeats 4000000 in
theorem mX9_current {l : Launch} {E : Ev} {b : Nat} (o0 : Nat) (ho0 : kd o0 = 9) (σ : Mem) (r : Int32) (h : fX9_current o0 σ = some r) : Met l yX9_current (tw yX9_current cX9_current 1 (some .int)) { frames := 0, cells := 0, slots := 0, locals := 0 } (va_Pc [.ref (b + o0)] (Pr l E (LC E b) σ)) (Qz E (LC E b) (some (.int r)) σ) 0 0 (La (LC E b)) := by
  refine ct_of (by decide) (Nat.le_of_ble_eq_true rfl) ?_
  intro p e s m below meth c C hW hS ls hl
  have hx0 := C.1
  have hb := C.2.1
  have hl : lv_has ls 1 [(0, .ref (b + o0))] := hl
  unfold fX9_current at h
  refine lv_aload_n hx0 hb dX9_current_0 rfl (lv_at hl 0 rfl) ?_
  refine gtX9_2 (k := o0) C hW ho0 flX9_24 dX9_current_1 ?_
  cases h
  exact w_iret C hW hS dX9_current_4
def fX9_trailSize (o0 : Nat) (σ : Mem) : Option Int32 :=
  some (σ o0 1)
set_option maxRecDepth 100000 in
set_option maxHeartbeats 4000000 in
theorem mX9_trailSize {l : Launch} {E : Ev} {b : Nat} (o0 : Nat) (ho0 : kd o0 = 9) (σ : Mem) (r : Int32) (h : fX9_trailSize o0 σ = some r) : Met l yX9_trailSize (tw yX9_trailSize cX9_trailSize 1 (some .int)) { frames := 0, cells := 0, slots := 0, locals := 0 } (va_Pc [.ref (b + o0)] (Pr l E (LC E b) σ)) (Qz E (LC E b) (some (.int r)) σ) 0 0 (La (LC E b)) := by
  refine ct_of (by decide) (Nat.le_of_ble_eq_true rfl) ?_
  intro p e s m below meth c C hW hS ls hl
  have hx0 := C.1
  have hb := C.2.1
  have hl : lv_has ls 1 [(0, .ref (b + o0))] := hl
  unfold fX9_trailSize at h
  refine lv_aload_n hx0 hb dX9_trailSize_0 rfl (lv_at hl 0 rfl) ?_
  refine gtX9_1 (k := o0) C hW ho0 flX9_20 dX9_trailSize_1 ?_
  cases h
  exact w_iret C hW hS dX9_trailSize_4
def fX9_forgetOldest_l2 (o0 : Nat) : Nat → Int32 → Mem → Option (Int32 × Mem)
  | 0, _, _ => none
  | n + 1, x1, σ => if (σ o0 1) ≤ x1 then (some (x1, σ)) else ((fX3_at (o0 + 1) x1 σ).bind fun v22 => (fX3_put (o0 + 1) (x1 - (1 : Int32)) v22 σ).bind fun v25 => fX9_forgetOldest_l2 o0 n (x1 + (1 : Int32)) v25)
set_option maxRecDepth 100000 in
set_option maxHeartbeats 4000000 in
theorem bX9_forgetOldest_l2 {p : Program} {l : Launch} {e : Env} {s : State} {m : MethodId} {args : Array Value} {below : List Frame} {meth : Method} {c : Code} {E : Ev} {b : Nat} (C : Cx p l s m args meth c E cX9_forgetOldest 2 RX9 none) (o0 : Nat) (ho0 : kd o0 = 9) {Qf : State → Prop} {q : Int32 × Mem} (hx : ∀ H locs ls, Wd E (LC E b) q.2 H → va_S (La (LC E b)) s.heap H locs → lv_has ls 2 [(0, .ref (b + o0)), (1, .int q.1)] → W p l e { frames := 1, cells := 0, slots := 0, locals := 22 } s m args below meth c H locs 0 0 Qf (F0 m 34 ls [])) : ∀ (n : Nat) (x1 : Int32) (σ : Mem), fX9_forgetOldest_l2 o0 n x1 σ = some q → ∀ (H : Heap) (locs : List Loc) (ls : Array Slot), Wd E (LC E b) σ H → va_S (La (LC E b)) s.heap H locs → lv_has ls 2 [(0, .ref (b + o0)), (1, .int x1)] → W p l e { frames := 1, cells := 0, slots := 0, locals := 22 } s m args below meth c H locs 0 0 Qf (F0 m 2 ls []) := by
  have hx0 := C.1
  have hb := C.2.1
  intro n
  induction n with
  | zero => intro x1 σ h; simp [fX9_forgetOldest_l2] at h
  | succ n ih =>
    intro x1 σ h H locs ls hW hS hl
    unfold fX9_forgetOldest_l2 at h
    refine lv_iload_n hx0 hb dX9_forgetOldest_2 rfl (lv_at hl 1 rfl) ?_
    refine lv_aload_n hx0 hb dX9_forgetOldest_3 rfl (lv_at hl 0 rfl) ?_
    refine gtX9_1 (k := o0) C hW ho0 flX9_20 dX9_forgetOldest_4 ?_
    refine lv_icmp_ge (tgt := 34) hx0 hb dX9_forgetOldest_7 (by decide) (fun c7 => ?_) (fun c7 => ?_)
    · rw [if_pos c7] at h
      cases h
      exact hx _ _ _ hW hS (lv_sub hl [0, 1] rfl)
    · rw [if_neg c7] at h
      refine lv_aload_n hx0 hb dX9_forgetOldest_10 rfl (lv_at hl 0 rfl) ?_
      refine gtX9_0 (k := o0) C hW ho0 flX9_14 dX9_forgetOldest_11 ?_
      refine lv_iload_n hx0 hb dX9_forgetOldest_14 rfl (lv_at hl 1 rfl) ?_
      refine lv_iconst (v := (1 : Int32)) hx0 hb dX9_forgetOldest_15 (by decide) ?_
      refine lv_isub hx0 hb dX9_forgetOldest_16 ?_
      refine lv_aload_n hx0 hb dX9_forgetOldest_17 rfl (lv_at hl 0 rfl) ?_
      refine gtX9_0 (k := o0) C hW ho0 flX9_14 dX9_forgetOldest_18 ?_
      refine lv_iload_n hx0 hb dX9_forgetOldest_21 rfl (lv_at hl 1 rfl) ?_
      obtain ⟨v22, h22, h⟩ := bnd h
      try dsimp only at h
      refine w_callV (L := (LC E b)) (k := o0 + 1) (As := [.int x1]) (rest := [.int (x1 - (1 : Int32)), .ref (b + (o0 + 1))]) C hW hS (kdlt (chX9_0 ho0) (by decide)) (ccX3 (chX9_0 ho0)) kcX3 (mX3_at (o0 + 1) x1 (chX9_0 ho0) σ v22 h22) cwX3_at cvX3_at rfl mlX9_38 ⟨by decide, by decide⟩ rfl hl.1 (Nat.le_of_ble_eq_true rfl) ⟨by decide, by decide⟩ dX9_forgetOldest_22 rfl (fun H locs hW hS => ?_)
      obtain ⟨v25, h25, h⟩ := bnd h
      try dsimp only at h
      refine w_callV (L := (LC E b)) (k := o0 + 1) (As := [.int (x1 - (1 : Int32)), .int v22]) (rest := []) C hW hS (kdlt (chX9_0 ho0) (by decide)) (ccX3 (chX9_0 ho0)) kcX3 (mX3_put (o0 + 1) (x1 - (1 : Int32)) v22 (chX9_0 ho0) σ v25 h25) cwX3_put cvX3_put rfl mlX9_34 ⟨by decide, by decide⟩ rfl hl.1 (Nat.le_of_ble_eq_true rfl) ⟨by decide, by decide⟩ dX9_forgetOldest_25 rfl (fun H locs hW hS => ?_)
      refine lv_iinc (v := x1 + (1 : Int32)) (lv' := [(1, .int (x1 + (1 : Int32))), (0, .ref (b + o0))]) hx0 hb dX9_forgetOldest_28 hl (k := 1) rfl rfl (by decide) rfl (fun ls hl => ?_)
      refine lv_goto (tgt := 2) hx0 hb dX9_forgetOldest_31 (by decide) ?_
      exact ih (x1 + (1 : Int32)) v25 h _ _ _ hW hS (lv_sub hl [1, 0] rfl)
def fX9_forgetOldest (o0 : Nat) (σ : Mem) : Option Mem :=
  (fX9_forgetOldest_l2 o0 FU (1 : Int32) σ).bind fun q2 => some (up q2.2 o0 1 ((q2.2 o0 1) - (1 : Int32)))
set_option maxRecDepth 100000 in
set_option maxHeartbeats 4000000 in
theorem mX9_forgetOldest {l : Launch} {E : Ev} {b : Nat} (o0 : Nat) (ho0 : kd o0 = 9) (σ : Mem) (r : Mem) (h : fX9_forgetOldest o0 σ = some r) : Met l yX9_forgetOldest (tw yX9_forgetOldest cX9_forgetOldest 2 none) { frames := 1, cells := 0, slots := 0, locals := 22 } (va_Pc [.ref (b + o0)] (Pr l E (LC E b) σ)) (Qz E (LC E b) none r) 0 0 (La (LC E b)) := by
  refine ct_of (by decide) (Nat.le_of_ble_eq_true rfl) ?_
  intro p e s m below meth c C hW hS ls hl
  have hx0 := C.1
  have hb := C.2.1
  have hl : lv_has ls 2 [(0, .ref (b + o0))] := hl
  unfold fX9_forgetOldest at h
  refine lv_iconst (v := (1 : Int32)) hx0 hb dX9_forgetOldest_0 (by decide) ?_
  refine lv_istore_n (lv' := [(1, .int (1 : Int32)), (0, .ref (b + o0))]) hx0 hb dX9_forgetOldest_1 rfl hl (by decide) rfl (fun ls hl => ?_)
  obtain ⟨q2, h2, h⟩ := bnd h
  try dsimp only at h
  refine bX9_forgetOldest_l2 C o0 ho0 (q := q2) ?_ FU (1 : Int32) σ h2 _ _ _ hW hS (lv_sub hl [1, 0] rfl)
  intro H locs ls hW hS hl
  refine lv_aload_n hx0 hb dX9_forgetOldest_34 rfl (lv_at hl 0 rfl) ?_
  refine lv_dup hx0 hb dX9_forgetOldest_35 rfl ?_
  refine gtX9_1 (k := o0) C hW ho0 flX9_20 dX9_forgetOldest_36 ?_
  refine lv_iconst (v := (1 : Int32)) hx0 hb dX9_forgetOldest_39 (by decide) ?_
  refine lv_isub hx0 hb dX9_forgetOldest_40 ?_
  refine ptX9_1 (k := o0) C hW hS ho0 flX9_20 dX9_forgetOldest_41 (fun H locs hW hS => ?_)
  cases h
  exact w_vret C hW hS dX9_forgetOldest_44
def fX9_leaveFor_j13 (o0 : Nat) (x1 : Int32) (σ : Mem) : Option (Mem) :=
  (fX3_put (o0 + 1) (σ o0 1) (σ o0 2) σ).bind fun v25 => some (up (up v25 o0 1 ((v25 o0 1) + (1 : Int32))) o0 2 x1)
set_option maxRecDepth 100000 in
set_option maxHeartbeats 4000000 in
theorem bX9_leaveFor_j13 {p : Program} {l : Launch} {e : Env} {s : State} {m : MethodId} {args : Array Value} {below : List Frame} {meth : Method} {c : Code} {E : Ev} {b : Nat} (C : Cx p l s m args meth c E cX9_leaveFor 2 RX9 none) (o0 : Nat) (x1 : Int32) (ho0 : kd o0 = 9) {r : Mem} (σ : Mem) (h : fX9_leaveFor_j13 o0 x1 σ = some r) (H : Heap) (locs : List Loc) (ls : Array Slot) (hW : Wd E (LC E b) σ H) (hS : va_S (La (LC E b)) s.heap H locs) (hl : lv_has ls 2 [(0, .ref (b + o0)), (1, .int x1)]) : W p l e { frames := 2, cells := 0, slots := 0, locals := 43 } s m args below meth c H locs 0 0 (MQ below (Qz E (LC E b) none r) args s 0 0 (La (LC E b))) (F0 m 13 ls []) := by
  have hx0 := C.1
  have hb := C.2.1
  unfold fX9_leaveFor_j13 at h
  refine lv_aload_n hx0 hb dX9_leaveFor_13 rfl (lv_at hl 0 rfl) ?_
  refine gtX9_0 (k := o0) C hW ho0 flX9_14 dX9_leaveFor_14 ?_
  refine lv_aload_n hx0 hb dX9_leaveFor_17 rfl (lv_at hl 0 rfl) ?_
  refine gtX9_1 (k := o0) C hW ho0 flX9_20 dX9_leaveFor_18 ?_
  refine lv_aload_n hx0 hb dX9_leaveFor_21 rfl (lv_at hl 0 rfl) ?_
  refine gtX9_2 (k := o0) C hW ho0 flX9_24 dX9_leaveFor_22 ?_
  obtain ⟨v25, h25, h⟩ := bnd h
  try dsimp only at h
  refine w_callV (L := (LC E b)) (k := o0 + 1) (As := [.int (σ o0 1), .int (σ o0 2)]) (rest := []) C hW hS (kdlt (chX9_0 ho0) (by decide)) (ccX3 (chX9_0 ho0)) kcX3 (mX3_put (o0 + 1) (σ o0 1) (σ o0 2) (chX9_0 ho0) σ v25 h25) cwX3_put cvX3_put rfl mlX9_34 ⟨by decide, by decide⟩ rfl hl.1 (Nat.le_of_ble_eq_true rfl) ⟨by decide, by decide⟩ dX9_leaveFor_25 rfl (fun H locs hW hS => ?_)
  refine lv_aload_n hx0 hb dX9_leaveFor_28 rfl (lv_at hl 0 rfl) ?_
  refine lv_dup hx0 hb dX9_leaveFor_29 rfl ?_
  refine gtX9_1 (k := o0) C hW ho0 flX9_20 dX9_leaveFor_30 ?_
  refine lv_iconst (v := (1 : Int32)) hx0 hb dX9_leaveFor_33 (by decide) ?_
  refine lv_iadd hx0 hb dX9_leaveFor_34 ?_
  refine ptX9_1 (k := o0) C hW hS ho0 flX9_20 dX9_leaveFor_35 (fun H locs hW hS => ?_)
  refine lv_aload_n hx0 hb dX9_leaveFor_38 rfl (lv_at hl 0 rfl) ?_
  refine lv_iload_n hx0 hb dX9_leaveFor_39 rfl (lv_at hl 1 rfl) ?_
  refine ptX9_2 (k := o0) C hW hS ho0 flX9_24 dX9_leaveFor_40 (fun H locs hW hS => ?_)
  cases h
  exact w_vret C hW hS dX9_leaveFor_43
def fX9_leaveFor (o0 : Nat) (x1 : Int32) (σ : Mem) : Option Mem :=
  if (σ o0 1) = (10 : Int32) then ((fX9_forgetOldest o0 σ).bind fun v10 => fX9_leaveFor_j13 o0 x1 v10) else (fX9_leaveFor_j13 o0 x1 σ)
set_option maxRecDepth 100000 in
set_option maxHeartbeats 4000000 in
theorem mX9_leaveFor {l : Launch} {E : Ev} {b : Nat} (o0 : Nat) (x1 : Int32) (ho0 : kd o0 = 9) (σ : Mem) (r : Mem) (h : fX9_leaveFor o0 x1 σ = some r) : Met l yX9_leaveFor (tw yX9_leaveFor cX9_leaveFor 2 none) { frames := 2, cells := 0, slots := 0, locals := 43 } (va_Pc [.ref (b + o0), .int x1] (Pr l E (LC E b) σ)) (Qz E (LC E b) none r) 0 0 (La (LC E b)) := by
  refine ct_of (by decide) (Nat.le_of_ble_eq_true rfl) ?_
  intro p e s m below meth c C hW hS ls hl
  have hx0 := C.1
  have hb := C.2.1
  have hl : lv_has ls 2 [(0, .ref (b + o0)), (1, .int x1)] := hl
  unfold fX9_leaveFor at h
  refine lv_aload_n hx0 hb dX9_leaveFor_0 rfl (lv_at hl 0 rfl) ?_
  refine gtX9_1 (k := o0) C hW ho0 flX9_20 dX9_leaveFor_1 ?_
  refine lv_bipush (v := (10 : Int32)) hx0 hb dX9_leaveFor_4 (by decide) ?_
  refine lv_icmp_ne (tgt := 13) hx0 hb dX9_leaveFor_6 (by decide) (fun c6 => ?_) (fun c6 => ?_)
  · rw [if_neg c6] at h
    exact bX9_leaveFor_j13 C o0 x1 ho0 σ h _ _ _ hW hS (lv_sub hl [0, 1] rfl)
  · rw [if_pos c6] at h
    refine lv_aload_n hx0 hb dX9_leaveFor_9 rfl (lv_at hl 0 rfl) ?_
    obtain ⟨v10, h10, h⟩ := bnd h
    try dsimp only at h
    refine w_callV (L := (LC E b)) (k := o0) (As := []) (rest := []) C hW hS (kdlt ho0 (by decide)) (ccX9 ho0) kcX9 (mX9_forgetOldest o0 ho0 σ v10 h10) cwX9_forgetOldest cvX9_forgetOldest rfl mlX9_31 ⟨by decide, by decide⟩ rfl hl.1 (Nat.le_of_ble_eq_true rfl) ⟨by decide, by decide⟩ dX9_leaveFor_10 rfl (fun H locs hW hS => ?_)
    exact bX9_leaveFor_j13 C o0 x1 ho0 v10 h _ _ _ hW hS (lv_sub hl [0, 1] rfl)
def fX9_stepBack (o0 : Nat) (σ : Mem) : Option Mem :=
  if (σ o0 1) ≤ 0 then (some σ) else ((fX3_at (o0 + 1) ((up σ o0 1 ((σ o0 1) - (1 : Int32))) o0 1) (up σ o0 1 ((σ o0 1) - (1 : Int32)))).bind fun v26 => some (up (up σ o0 1 ((σ o0 1) - (1 : Int32))) o0 2 v26))
set_option maxRecDepth 100000 in
set_option maxHeartbeats 4000000 in
theorem mX9_stepBack {l : Launch} {E : Ev} {b : Nat} (o0 : Nat) (ho0 : kd o0 = 9) (σ : Mem) (r : Mem) (h : fX9_stepBack o0 σ = some r) : Met l yX9_stepBack (tw yX9_stepBack cX9_stepBack 1 none) { frames := 1, cells := 0, slots := 0, locals := 21 } (va_Pc [.ref (b + o0)] (Pr l E (LC E b) σ)) (Qz E (LC E b) none r) 0 0 (La (LC E b)) := by
  refine ct_of (by decide) (Nat.le_of_ble_eq_true rfl) ?_
  intro p e s m below meth c C hW hS ls hl
  have hx0 := C.1
  have hb := C.2.1
  have hl : lv_has ls 1 [(0, .ref (b + o0))] := hl
  unfold fX9_stepBack at h
  refine lv_aload_n hx0 hb dX9_stepBack_0 rfl (lv_at hl 0 rfl) ?_
  refine gtX9_1 (k := o0) C hW ho0 flX9_20 dX9_stepBack_1 ?_
  refine lv_if_le (tgt := 32) hx0 hb dX9_stepBack_4 (by decide) (fun c4 => ?_) (fun c4 => ?_)
  · rw [if_pos c4] at h
    cases h
    exact w_vret C hW hS dX9_stepBack_32
  · rw [if_neg c4] at h
    refine lv_aload_n hx0 hb dX9_stepBack_7 rfl (lv_at hl 0 rfl) ?_
    refine lv_dup hx0 hb dX9_stepBack_8 rfl ?_
    refine gtX9_1 (k := o0) C hW ho0 flX9_20 dX9_stepBack_9 ?_
    refine lv_iconst (v := (1 : Int32)) hx0 hb dX9_stepBack_12 (by decide) ?_
    refine lv_isub hx0 hb dX9_stepBack_13 ?_
    refine ptX9_1 (k := o0) C hW hS ho0 flX9_20 dX9_stepBack_14 (fun H locs hW hS => ?_)
    refine lv_aload_n hx0 hb dX9_stepBack_17 rfl (lv_at hl 0 rfl) ?_
    refine lv_aload_n hx0 hb dX9_stepBack_18 rfl (lv_at hl 0 rfl) ?_
    refine gtX9_0 (k := o0) C hW ho0 flX9_14 dX9_stepBack_19 ?_
    refine lv_aload_n hx0 hb dX9_stepBack_22 rfl (lv_at hl 0 rfl) ?_
    refine gtX9_1 (k := o0) C hW ho0 flX9_20 dX9_stepBack_23 ?_
    obtain ⟨v26, h26, h⟩ := bnd h
    try dsimp only at h
    refine w_callV (L := (LC E b)) (k := o0 + 1) (As := [.int ((up σ o0 1 ((σ o0 1) - (1 : Int32))) o0 1)]) (rest := [.ref (b + o0)]) C hW hS (kdlt (chX9_0 ho0) (by decide)) (ccX3 (chX9_0 ho0)) kcX3 (mX3_at (o0 + 1) ((up σ o0 1 ((σ o0 1) - (1 : Int32))) o0 1) (chX9_0 ho0) (up σ o0 1 ((σ o0 1) - (1 : Int32))) v26 h26) cwX3_at cvX3_at rfl mlX9_38 ⟨by decide, by decide⟩ rfl hl.1 (Nat.le_of_ble_eq_true rfl) ⟨by decide, by decide⟩ dX9_stepBack_26 rfl (fun H locs hW hS => ?_)
    refine ptX9_2 (k := o0) C hW hS ho0 flX9_24 dX9_stepBack_29 (fun H locs hW hS => ?_)
    cases h
    exact w_vret C hW hS dX9_stepBack_32
