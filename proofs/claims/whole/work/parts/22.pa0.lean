/-! PageArchive, by program out of the bytecode -/
def fX11_countBytes_l5 (x0 : Int32) : Nat → Int32 → Int32 → Mem → Option (Int32 × Int32)
  | 0, _, _, _ => none
  | n + 1, x1, x2, σ => if x2 < 0 then (some (x1, x2)) else (if (((x0.toUInt32 >>> (x2.toUInt32 &&& Int32.toUInt32 31)).toInt32) &&& (255 : Int32)) = 0 then (fX11_countBytes_l5 x0 n x1 (x2 + (-8 : Int32)) σ) else (fX11_countBytes_l5 x0 n (x1 + (1 : Int32)) (x2 + (-8 : Int32)) σ))
set_option maxRecDepth 100000 in
set_option maxHeartbeats 4000000 in
theorem bX11_countBytes_l5 {p : Program} {l : Launch} {e : Env} {s : State} {m : MethodId} {args : Array Value} {below : List Frame} {meth : Method} {c : Code} {E : Ev} {b : Nat} (C : Cx p l s m args meth c E cX11_countBytes 3 RX11 (some .int)) (x0 : Int32) (σ : Mem) {Qf : State → Prop} {q : Int32 × Int32} (hx : ∀ H locs ls, Wd E (LC E b) σ H → va_S (La (LC E b)) s.heap H locs → lv_has ls 3 [(0, .int x0), (1, .int q.1), (2, .int q.2)] → W p l e { frames := 0, cells := 0, slots := 0, locals := 0 } s m args below meth c H locs 0 0 Qf (F0 m 28 ls [])) : ∀ (n : Nat) (x1 : Int32) (x2 : Int32), fX11_countBytes_l5 x0 n x1 x2 σ = some q → ∀ (H : Heap) (locs : List Loc) (ls : Array Slot), Wd E (LC E b) σ H → va_S (La (LC E b)) s.heap H locs → lv_has ls 3 [(0, .int x0), (1, .int x1), (2, .int x2)] → W p l e { frames := 0, cells := 0, slots := 0, locals := 0 } s m args below meth c H locs 0 0 Qf (F0 m 5 ls []) := by
  have hx0 := C.1
  have hb := C.2.1
  intro n
  induction n with
  | zero => intro x1 x2 h; simp [fX11_countBytes_l5] at h
  | succ n ih =>
    intro x1 x2 h H locs ls hW hS hl
    unfold fX11_countBytes_l5 at h
    refine lv_iload_n hx0 hb dX11_countBytes_5 rfl (lv_at hl 2 rfl) ?_
    refine lv_if_lt (tgt := 28) hx0 hb dX11_countBytes_6 (by decide) (fun c6 => ?_) (fun c6 => ?_)
    · rw [if_pos c6] at h
      cases h
      exact hx _ _ _ hW hS (lv_sub hl [0, 1, 2] rfl)
    · rw [if_neg c6] at h
      refine lv_iload_n hx0 hb dX11_countBytes_9 rfl (lv_at hl 0 rfl) ?_
      refine lv_iload_n hx0 hb dX11_countBytes_10 rfl (lv_at hl 2 rfl) ?_
      refine lv_iushr hx0 hb dX11_countBytes_11 rfl ?_
      refine lv_sipush (v := (255 : Int32)) hx0 hb dX11_countBytes_12 (by decide) ?_
      refine lv_iand hx0 hb dX11_countBytes_15 ?_
      refine lv_if_eq (tgt := 22) hx0 hb dX11_countBytes_16 (by decide) (fun c16 => ?_) (fun c16 => ?_)
      · rw [if_pos c16] at h
        refine lv_iinc (v := x2 + (-8 : Int32)) (lv' := [(2, .int (x2 + (-8 : Int32))), (0, .int x0), (1, .int x1)]) hx0 hb dX11_countBytes_22 hl (k := 2) rfl rfl (by decide) rfl (fun ls hl => ?_)
        refine lv_goto (tgt := 5) hx0 hb dX11_countBytes_25 (by decide) ?_
        exact ih x1 (x2 + (-8 : Int32)) h _ _ _ hW hS (lv_sub hl [1, 2, 0] rfl)
      · rw [if_neg c16] at h
        refine lv_iinc (v := x1 + (1 : Int32)) (lv' := [(1, .int (x1 + (1 : Int32))), (0, .int x0), (2, .int x2)]) hx0 hb dX11_countBytes_19 hl (k := 1) rfl rfl (by decide) rfl (fun ls hl => ?_)
        refine lv_iinc (v := x2 + (-8 : Int32)) (lv' := [(2, .int (x2 + (-8 : Int32))), (1, .int (x1 + (1 : Int32))), (0, .int x0)]) hx0 hb dX11_countBytes_22 hl (k := 2) rfl rfl (by decide) rfl (fun ls hl => ?_)
        refine lv_goto (tgt := 5) hx0 hb dX11_countBytes_25 (by decide) ?_
        exact ih (x1 + (1 : Int32)) (x2 + (-8 : Int32)) h _ _ _ hW hS (lv_sub hl [2, 1, 0] rfl)
def fX11_countBytes (x0 : Int32) (σ : Mem) : Option Int32 :=
  (fX11_countBytes_l5 x0 FU (0 : Int32) (24 : Int32) σ).bind fun q5 => some q5.1
set_option maxRecDepth 100000 in
set_option maxHeartbeats 4000000 in
theorem mX11_countBytes {l : Launch} {E : Ev} {b : Nat} (x0 : Int32) (σ : Mem) (r : Int32) (h : fX11_countBytes x0 σ = some r) : Met l yX11_countBytes (tw yX11_countBytes cX11_countBytes 3 (some .int)) { frames := 0, cells := 0, slots := 0, locals := 0 } (va_Pc [.int x0] (Pr l E (LC E b) σ)) (Qz E (LC E b) (some (.int r)) σ) 0 0 (La (LC E b)) := by
  refine ct_of (by decide) (Nat.le_of_ble_eq_true rfl) ?_
  intro p e s m below meth c C hW hS ls hl
  have hx0 := C.1
  have hb := C.2.1
  have hl : lv_has ls 3 [(0, .int x0)] := hl
  unfold fX11_countBytes at h
  refine lv_iconst (v := (0 : Int32)) hx0 hb dX11_countBytes_0 (by decide) ?_
  refine lv_istore_n (lv' := [(1, .int (0 : Int32)), (0, .int x0)]) hx0 hb dX11_countBytes_1 rfl hl (by decide) rfl (fun ls hl => ?_)
  refine lv_bipush (v := (24 : Int32)) hx0 hb dX11_countBytes_2 (by decide) ?_
  refine lv_istore_n (lv' := [(2, .int (24 : Int32)), (1, .int (0 : Int32)), (0, .int x0)]) hx0 hb dX11_countBytes_4 rfl hl (by decide) rfl (fun ls hl => ?_)
  obtain ⟨q5, h5, h⟩ := bnd h
  try dsimp only at h
  refine bX11_countBytes_l5 C x0  σ (q := q5) ?_ FU (0 : Int32) (24 : Int32) h5 _ _ _ hW hS (lv_sub hl [2, 1, 0] rfl)
  intro H locs ls hW hS hl
  refine lv_iload_n hx0 hb dX11_countBytes_28 rfl (lv_at hl 1 rfl) ?_
  cases h
  exact w_iret C hW hS dX11_countBytes_29
def fX11_addBytes_l3 (o0 : Nat) (x1 : Int32) : Nat → Int32 → Mem → Option (Int32 × Mem)
  | 0, _, _ => none
  | n + 1, x2, σ => if x2 < 0 then (some (x2, σ)) else (if (((x1.toUInt32 >>> (x2.toUInt32 &&& Int32.toUInt32 31)).toInt32) &&& (255 : Int32)) = 0 then (fX11_addBytes_l3 o0 x1 n (x2 + (-8 : Int32)) σ) else ((fX8_add (o0 + 33) (((x1.toUInt32 >>> (x2.toUInt32 &&& Int32.toUInt32 31)).toInt32) &&& (255 : Int32)) σ).bind fun v24 => fX11_addBytes_l3 o0 x1 n (x2 + (-8 : Int32)) v24))
set_option maxRecDepth 100000 in
set_option maxHeartbeats 4000000 in
theorem bX11_addBytes_l3 {p : Program} {l : Launch} {e : Env} {s : State} {m : MethodId} {args : Array Value} {below : List Frame} {meth : Method} {c : Code} {E : Ev} {b : Nat} (C : Cx p l s m args meth c E cX11_addBytes 4 RX11 none) (o0 : Nat) (x1 : Int32) (ho0 : kd o0 = 11) {Qf : State → Prop} {q : Int32 × Mem} (hx : ∀ H locs ls, Wd E (LC E b) q.2 H → va_S (La (LC E b)) s.heap H locs → lv_has ls 4 [(0, .ref (b + o0)), (1, .int x1), (2, .int q.1)] → W p l e { frames := 1, cells := 0, slots := 0, locals := 21 } s m args below meth c H locs 0 0 Qf (F0 m 33 ls [])) : ∀ (n : Nat) (x2 : Int32) (σ : Mem), fX11_addBytes_l3 o0 x1 n x2 σ = some q → ∀ (H : Heap) (locs : List Loc) (ls : Array Slot), Wd E (LC E b) σ H → va_S (La (LC E b)) s.heap H locs → lv_has ls 4 [(0, .ref (b + o0)), (1, .int x1), (2, .int x2)] → W p l e { frames := 1, cells := 0, slots := 0, locals := 21 } s m args below meth c H locs 0 0 Qf (F0 m 3 ls []) := by
  have hx0 := C.1
  have hb := C.2.1
  intro n
  induction n with
  | zero => intro x2 σ h; simp [fX11_addBytes_l3] at h
  | succ n ih =>
    intro x2 σ h H locs ls hW hS hl
    unfold fX11_addBytes_l3 at h
    refine lv_iload_n hx0 hb dX11_addBytes_3 rfl (lv_at hl 2 rfl) ?_
    refine lv_if_lt (tgt := 33) hx0 hb dX11_addBytes_4 (by decide) (fun c4 => ?_) (fun c4 => ?_)
    · rw [if_pos c4] at h
      cases h
      exact hx _ _ _ hW hS (lv_sub hl [0, 1, 2] rfl)
    · rw [if_neg c4] at h
      refine lv_iload_n hx0 hb dX11_addBytes_7 rfl (lv_at hl 1 rfl) ?_
      refine lv_iload_n hx0 hb dX11_addBytes_8 rfl (lv_at hl 2 rfl) ?_
      refine lv_iushr hx0 hb dX11_addBytes_9 rfl ?_
      refine lv_sipush (v := (255 : Int32)) hx0 hb dX11_addBytes_10 (by decide) ?_
      refine lv_iand hx0 hb dX11_addBytes_13 ?_
      refine lv_istore_n (lv' := [(3, .int (((x1.toUInt32 >>> (x2.toUInt32 &&& Int32.toUInt32 31)).toInt32) &&& (255 : Int32))), (0, .ref (b + o0)), (1, .int x1), (2, .int x2)]) hx0 hb dX11_addBytes_14 rfl hl (by decide) rfl (fun ls hl => ?_)
      refine lv_iload_n hx0 hb dX11_addBytes_15 rfl (lv_at hl 0 rfl) ?_
      refine lv_if_eq (tgt := 27) hx0 hb dX11_addBytes_16 (by decide) (fun c16 => ?_) (fun c16 => ?_)
      · rw [if_pos c16] at h
        refine lv_iinc (v := x2 + (-8 : Int32)) (lv' := [(2, .int (x2 + (-8 : Int32))), (3, .int (((x1.toUInt32 >>> (x2.toUInt32 &&& Int32.toUInt32 31)).toInt32) &&& (255 : Int32))), (0, .ref (b + o0)), (1, .int x1)]) hx0 hb dX11_addBytes_27 hl (k := 3) rfl rfl (by decide) rfl (fun ls hl => ?_)
        refine lv_goto (tgt := 3) hx0 hb dX11_addBytes_30 (by decide) ?_
        exact ih (x2 + (-8 : Int32)) σ h _ _ _ hW hS (lv_sub hl [2, 3, 0] rfl)
      · rw [if_neg c16] at h
        refine lv_aload_n hx0 hb dX11_addBytes_19 rfl (lv_at hl 1 rfl) ?_
        refine gtX11_1 (k := o0) C hW ho0 flX11_20 dX11_addBytes_20 ?_
        refine lv_iload_n hx0 hb dX11_addBytes_23 rfl (lv_at hl 0 rfl) ?_
        obtain ⟨v24, h24, h⟩ := bnd h
        try dsimp only at h
        refine w_callV (L := (LC E b)) (k := o0 + 33) (As := [.int (((x1.toUInt32 >>> (x2.toUInt32 &&& Int32.toUInt32 31)).toInt32) &&& (255 : Int32))]) (rest := []) C hW hS (kdlt (chX11_1 ho0) (by decide)) (ccX8 (chX11_1 ho0)) kcX8 (mX8_add (o0 + 33) (((x1.toUInt32 >>> (x2.toUInt32 &&& Int32.toUInt32 31)).toInt32) &&& (255 : Int32)) (chX11_1 ho0) σ v24 h24) cwX8_add cvX8_add rfl mlX11_147 ⟨by decide, by decide⟩ rfl hl.1 (Nat.le_of_ble_eq_true rfl) ⟨by decide, by decide⟩ dX11_addBytes_24 rfl (fun H locs hW hS => ?_)
        refine lv_iinc (v := x2 + (-8 : Int32)) (lv' := [(2, .int (x2 + (-8 : Int32))), (3, .int (((x1.toUInt32 >>> (x2.toUInt32 &&& Int32.toUInt32 31)).toInt32) &&& (255 : Int32))), (0, .ref (b + o0)), (1, .int x1)]) hx0 hb dX11_addBytes_27 hl (k := 3) rfl rfl (by decide) rfl (fun ls hl => ?_)
        refine lv_goto (tgt := 3) hx0 hb dX11_addBytes_30 (by decide) ?_
        exact ih (x2 + (-8 : Int32)) v24 h _ _ _ hW hS (lv_sub hl [2, 3, 0] rfl)
def fX11_addBytes (o0 : Nat) (x1 : Int32) (σ : Mem) : Option Mem :=
  (fX11_addBytes_l3 o0 x1 FU (24 : Int32) σ).bind fun q3 => some q3.2
set_option maxRecDepth 100000 in
set_option maxHeartbeats 4000000 in
theorem mX11_addBytes {l : Launch} {E : Ev} {b : Nat} (o0 : Nat) (x1 : Int32) (ho0 : kd o0 = 11) (σ : Mem) (r : Mem) (h : fX11_addBytes o0 x1 σ = some r) : Met l yX11_addBytes (tw yX11_addBytes cX11_addBytes 4 none) { frames := 1, cells := 0, slots := 0, locals := 21 } (va_Pc [.ref (b + o0), .int x1] (Pr l E (LC E b) σ)) (Qz E (LC E b) none r) 0 0 (La (LC E b)) := by
  refine ct_of (by decide) (Nat.le_of_ble_eq_true rfl) ?_
  intro p e s m below meth c C hW hS ls hl
  have hx0 := C.1
  have hb := C.2.1
  have hl : lv_has ls 4 [(0, .ref (b + o0)), (1, .int x1)] := hl
  unfold fX11_addBytes at h
  refine lv_bipush (v := (24 : Int32)) hx0 hb dX11_addBytes_0 (by decide) ?_
  refine lv_istore_n (lv' := [(2, .int (24 : Int32)), (0, .ref (b + o0)), (1, .int x1)]) hx0 hb dX11_addBytes_2 rfl hl (by decide) rfl (fun ls hl => ?_)
  obtain ⟨q3, h3, h⟩ := bnd h
  try dsimp only at h
  refine bX11_addBytes_l3 C o0 x1 ho0 (q := q3) ?_ FU (24 : Int32) σ h3 _ _ _ hW hS (lv_sub hl [1, 2, 0] rfl)
  intro H locs ls hW hS hl
  cases h
  exact w_vret C hW hS dX11_addBytes_33
def fX11_append (o0 : Nat) (x1 : Int32) (x2 : Int32) (x3 : Int32) (x4 : Int32) (x5 : Int32) (σ : Mem) : Option Rx :=
  (fX11_countBytes x1 σ).bind fun v1 => (fX11_countBytes x2 σ).bind fun v5 => (fX11_countBytes x3 σ).bind fun v10 => (fX11_countBytes x4 σ).bind fun v16 => (fX11_countBytes x5 σ).bind fun v22 => (fX8_size (o0 + 33) σ).bind fun v32 => if (v32 + ((((v1 + v5) + v10) + v16) + v22)) ≤ (600 : Int32) then ((fX11_addBytes o0 x1 σ).bind fun v56 => (fX11_addBytes o0 x2 v56).bind fun v61 => (fX11_addBytes o0 x3 v61).bind fun v66 => (fX11_addBytes o0 x4 v66).bind fun v72 => (fX11_addBytes o0 x5 v72).bind fun v78 => (fX8_size (o0 + 33) v78).bind fun v85 => some (.inr v85, v78)) else (some (.inl 0, σ))
set_option maxRecDepth 100000 in
set_option maxHeartbeats 4000000 in
theorem mX11_append {l : Launch} {E : Ev} {b : Nat} (o0 : Nat) (x1 : Int32) (x2 : Int32) (x3 : Int32) (x4 : Int32) (x5 : Int32) (ho0 : kd o0 = 11) (σ : Mem) (r : Rx) (h : fX11_append o0 x1 x2 x3 x4 x5 σ = some r) : vx_Met l yX11_append (tw yX11_append cX11_append 7 (some .int)) { frames := 6, cells := 1, slots := 6, locals := 90 } (va_Pc [.ref (b + o0), .int x1, .int x2, .int x3, .int x4, .int x5] (Pr l E (LC E b) σ)) (Qx E (LC E b) rvI r) (Xx E (LC E b) r) 1 6 (La (LC E b)) := by
  refine cx_of (by decide) (Nat.le_of_ble_eq_true rfl) ?_
  intro p e s m below meth c C hT hW hS ls hl
  have hx0 := C.1
  have hb := C.2.1
  have hl : lv_has ls 7 [(0, .ref (b + o0)), (1, .int x1), (2, .int x2), (3, .int x3), (4, .int x4), (5, .int x5)] := hl
  unfold fX11_append at h
  refine lv_iload_n hx0 hb dX11_append_0 rfl (lv_at hl 1 rfl) ?_
  obtain ⟨v1, h1, h⟩ := bnd h
  try dsimp only at h
  refine w_callS (L := (LC E b)) (As := [.int x1]) (rest := []) C hW hS (mX11_countBytes x1  σ v1 h1) cwX11_countBytes csX11_countBytes mlX11_103 ⟨by decide, by decide⟩ rfl hl.1 (Nat.le_of_ble_eq_true rfl) ⟨by decide, by decide⟩ dX11_append_1 rfl (fun H locs hW hS => ?_)
  refine lv_iload_n hx0 hb dX11_append_4 rfl (lv_at hl 2 rfl) ?_
  obtain ⟨v5, h5, h⟩ := bnd h
  try dsimp only at h
  refine w_callS (L := (LC E b)) (As := [.int x2]) (rest := [.int v1]) C hW hS (mX11_countBytes x2  σ v5 h5) cwX11_countBytes csX11_countBytes mlX11_103 ⟨by decide, by decide⟩ rfl hl.1 (Nat.le_of_ble_eq_true rfl) ⟨by decide, by decide⟩ dX11_append_5 rfl (fun H locs hW hS => ?_)
  refine lv_iadd hx0 hb dX11_append_8 ?_
  refine lv_iload_n hx0 hb dX11_append_9 rfl (lv_at hl 3 rfl) ?_
  obtain ⟨v10, h10, h⟩ := bnd h
  try dsimp only at h
  refine w_callS (L := (LC E b)) (As := [.int x3]) (rest := [.int (v1 + v5)]) C hW hS (mX11_countBytes x3  σ v10 h10) cwX11_countBytes csX11_countBytes mlX11_103 ⟨by decide, by decide⟩ rfl hl.1 (Nat.le_of_ble_eq_true rfl) ⟨by decide, by decide⟩ dX11_append_10 rfl (fun H locs hW hS => ?_)
  refine lv_iadd hx0 hb dX11_append_13 ?_
  refine lv_iload hx0 hb dX11_append_14 (lv_at hl 4 rfl) ?_
  obtain ⟨v16, h16, h⟩ := bnd h
  try dsimp only at h
  refine w_callS (L := (LC E b)) (As := [.int x4]) (rest := [.int ((v1 + v5) + v10)]) C hW hS (mX11_countBytes x4  σ v16 h16) cwX11_countBytes csX11_countBytes mlX11_103 ⟨by decide, by decide⟩ rfl hl.1 (Nat.le_of_ble_eq_true rfl) ⟨by decide, by decide⟩ dX11_append_16 rfl (fun H locs hW hS => ?_)
  refine lv_iadd hx0 hb dX11_append_19 ?_
  refine lv_iload hx0 hb dX11_append_20 (lv_at hl 5 rfl) ?_
  obtain ⟨v22, h22, h⟩ := bnd h
  try dsimp only at h
  refine w_callS (L := (LC E b)) (As := [.int x5]) (rest := [.int (((v1 + v5) + v10) + v16)]) C hW hS (mX11_countBytes x5  σ v22 h22) cwX11_countBytes csX11_countBytes mlX11_103 ⟨by decide, by decide⟩ rfl hl.1 (Nat.le_of_ble_eq_true rfl) ⟨by decide, by decide⟩ dX11_append_22 rfl (fun H locs hW hS => ?_)
  refine lv_iadd hx0 hb dX11_append_25 ?_
  refine lv_istore (lv' := [(6, .int ((((v1 + v5) + v10) + v16) + v22)), (0, .ref (b + o0)), (1, .int x1), (2, .int x2), (3, .int x3), (4, .int x4), (5, .int x5)]) hx0 hb dX11_append_26 hl (by decide) rfl (fun ls hl => ?_)
  refine lv_aload_n hx0 hb dX11_append_28 rfl (lv_at hl 1 rfl) ?_
  refine gtX11_1 (k := o0) C hW ho0 flX11_20 dX11_append_29 ?_
  obtain ⟨v32, h32, h⟩ := bnd h
  try dsimp only at h
  refine w_callV (L := (LC E b)) (k := o0 + 33) (As := []) (rest := []) C hW hS (kdlt (chX11_1 ho0) (by decide)) (ccX8 (chX11_1 ho0)) kcX8 (mX8_size (o0 + 33) (chX11_1 ho0) σ v32 h32) cwX8_size cvX8_size rfl mlX11_107 ⟨by decide, by decide⟩ rfl hl.1 (Nat.le_of_ble_eq_true rfl) ⟨by decide, by decide⟩ dX11_append_32 rfl (fun H locs hW hS => ?_)
  refine lv_iload hx0 hb dX11_append_35 (lv_at hl 0 rfl) ?_
  refine lv_iadd hx0 hb dX11_append_37 ?_
  refine lv_sipush (v := (600 : Int32)) hx0 hb dX11_append_38 (by decide) ?_
  refine lv_icmp_le (tgt := 54) hx0 hb dX11_append_41 (by decide) (fun c41 => ?_) (fun c41 => ?_)
  · rw [if_pos c41] at h
    refine lv_aload_n hx0 hb dX11_append_54 rfl (lv_at hl 1 rfl) ?_
    refine lv_iload_n hx0 hb dX11_append_55 rfl (lv_at hl 2 rfl) ?_
    obtain ⟨v56, h56, h⟩ := bnd h
    try dsimp only at h
    refine w_callV (L := (LC E b)) (k := o0) (As := [.int x1]) (rest := []) C hW hS (kdlt ho0 (by decide)) (ccX11 ho0) kcX11 (mX11_addBytes o0 x1 ho0 σ v56 h56) cwX11_addBytes cvX11_addBytes rfl mlX11_118 ⟨by decide, by decide⟩ rfl hl.1 (Nat.le_of_ble_eq_true rfl) ⟨by decide, by decide⟩ dX11_append_56 rfl (fun H locs hW hS => ?_)
    refine lv_aload_n hx0 hb dX11_append_59 rfl (lv_at hl 1 rfl) ?_
    refine lv_iload_n hx0 hb dX11_append_60 rfl (lv_at hl 3 rfl) ?_
    obtain ⟨v61, h61, h⟩ := bnd h
    try dsimp only at h
    refine w_callV (L := (LC E b)) (k := o0) (As := [.int x2]) (rest := []) C hW hS (kdlt ho0 (by decide)) (ccX11 ho0) kcX11 (mX11_addBytes o0 x2 ho0 v56 v61 h61) cwX11_addBytes cvX11_addBytes rfl mlX11_118 ⟨by decide, by decide⟩ rfl hl.1 (Nat.le_of_ble_eq_true rfl) ⟨by decide, by decide⟩ dX11_append_61 rfl (fun H locs hW hS => ?_)
    refine lv_aload_n hx0 hb dX11_append_64 rfl (lv_at hl 1 rfl) ?_
    refine lv_iload_n hx0 hb dX11_append_65 rfl (lv_at hl 4 rfl) ?_
    obtain ⟨v66, h66, h⟩ := bnd h
    try dsimp only at h
    refine w_callV (L := (LC E b)) (k := o0) (As := [.int x3]) (rest := []) C hW hS (kdlt ho0 (by decide)) (ccX11 ho0) kcX11 (mX11_addBytes o0 x3 ho0 v61 v66 h66) cwX11_addBytes cvX11_addBytes rfl mlX11_118 ⟨by decide, by decide⟩ rfl hl.1 (Nat.le_of_ble_eq_true rfl) ⟨by decide, by decide⟩ dX11_append_66 rfl (fun H locs hW hS => ?_)
    refine lv_aload_n hx0 hb dX11_append_69 rfl (lv_at hl 1 rfl) ?_
    refine lv_iload hx0 hb dX11_append_70 (lv_at hl 5 rfl) ?_
    obtain ⟨v72, h72, h⟩ := bnd h
    try dsimp only at h
    refine w_callV (L := (LC E b)) (k := o0) (As := [.int x4]) (rest := []) C hW hS (kdlt ho0 (by decide)) (ccX11 ho0) kcX11 (mX11_addBytes o0 x4 ho0 v66 v72 h72) cwX11_addBytes cvX11_addBytes rfl mlX11_118 ⟨by decide, by decide⟩ rfl hl.1 (Nat.le_of_ble_eq_true rfl) ⟨by decide, by decide⟩ dX11_append_72 rfl (fun H locs hW hS => ?_)
    refine lv_aload_n hx0 hb dX11_append_75 rfl (lv_at hl 1 rfl) ?_
    refine lv_iload hx0 hb dX11_append_76 (lv_at hl 6 rfl) ?_
    obtain ⟨v78, h78, h⟩ := bnd h
    try dsimp only at h
    refine w_callV (L := (LC E b)) (k := o0) (As := [.int x5]) (rest := []) C hW hS (kdlt ho0 (by decide)) (ccX11 ho0) kcX11 (mX11_addBytes o0 x5 ho0 v72 v78 h78) cwX11_addBytes cvX11_addBytes rfl mlX11_118 ⟨by decide, by decide⟩ rfl hl.1 (Nat.le_of_ble_eq_true rfl) ⟨by decide, by decide⟩ dX11_append_78 rfl (fun H locs hW hS => ?_)
    refine lv_aload_n hx0 hb dX11_append_81 rfl (lv_at hl 1 rfl) ?_
    refine gtX11_1 (k := o0) C hW ho0 flX11_20 dX11_append_82 ?_
    obtain ⟨v85, h85, h⟩ := bnd h
    try dsimp only at h
    refine w_callV (L := (LC E b)) (k := o0 + 33) (As := []) (rest := []) C hW hS (kdlt (chX11_1 ho0) (by decide)) (ccX8 (chX11_1 ho0)) kcX8 (mX8_size (o0 + 33) (chX11_1 ho0) v78 v85 h85) cwX8_size cvX8_size rfl mlX11_107 ⟨by decide, by decide⟩ rfl hl.1 (Nat.le_of_ble_eq_true rfl) ⟨by decide, by decide⟩ dX11_append_85 rfl (fun H locs hW hS => ?_)
    cases h
    exact x_iret C hW hS (by decide) (by decide) dX11_append_88
  · rw [if_neg c41] at h
    cases h
    exact x_throw (n := 0) (si := 21) C hT (by decide +kernel) xat0 xgd0 xcl0 xin0 rfl hW hS hl.1 ⟨by decide, Nat.le_of_ble_eq_true rfl⟩ ⟨by decide, by decide⟩ (by decide) (by decide) dX11_append_44 dX11_append_47 dX11_append_48 dX11_append_50 dX11_append_53
def fX11_truncate (o0 : Nat) (x1 : Int32) (σ : Mem) : Option Rx :=
  if x1 < 0 then (some (.inl 1, σ)) else ((fX8_size (o0 + 33) σ).bind fun v9 => if x1 ≤ v9 then ((fX8_shortenTo (o0 + 33) x1 σ).bind fun v30 => some (.inr x1, v30)) else (some (.inl 1, σ)))
set_option maxRecDepth 100000 in
set_option maxHeartbeats 4000000 in
theorem mX11_truncate {l : Launch} {E : Ev} {b : Nat} (o0 : Nat) (x1 : Int32) (ho0 : kd o0 = 11) (σ : Mem) (r : Rx) (h : fX11_truncate o0 x1 σ = some r) : vx_Met l yX11_truncate (tw yX11_truncate cX11_truncate 2 (some .int)) { frames := 6, cells := 1, slots := 6, locals := 90 } (va_Pc [.ref (b + o0), .int x1] (Pr l E (LC E b) σ)) (Qx E (LC E b) rvI r) (Xx E (LC E b) r) 1 6 (La (LC E b)) := by
  refine cx_of (by decide) (Nat.le_of_ble_eq_true rfl) ?_
  intro p e s m below meth c C hT hW hS ls hl
  have hx0 := C.1
  have hb := C.2.1
  have hl : lv_has ls 2 [(0, .ref (b + o0)), (1, .int x1)] := hl
  unfold fX11_truncate at h
  refine lv_iload_n hx0 hb dX11_truncate_0 rfl (lv_at hl 1 rfl) ?_
  refine lv_if_lt (tgt := 15) hx0 hb dX11_truncate_1 (by decide) (fun c1 => ?_) (fun c1 => ?_)
  · rw [if_pos c1] at h
    cases h
    exact x_throw (n := 1) (si := 22) C hT (by decide +kernel) xat1 xgd1 xcl1 xin1 rfl hW hS hl.1 ⟨by decide, Nat.le_of_ble_eq_true rfl⟩ ⟨by decide, by decide⟩ (by decide) (by decide) dX11_truncate_15 dX11_truncate_18 dX11_truncate_19 dX11_truncate_21 dX11_truncate_24
  · rw [if_neg c1] at h
    refine lv_iload_n hx0 hb dX11_truncate_4 rfl (lv_at hl 1 rfl) ?_
    refine lv_aload_n hx0 hb dX11_truncate_5 rfl (lv_at hl 0 rfl) ?_
    refine gtX11_1 (k := o0) C hW ho0 flX11_20 dX11_truncate_6 ?_
    obtain ⟨v9, h9, h⟩ := bnd h
    try dsimp only at h
    refine w_callV (L := (LC E b)) (k := o0 + 33) (As := []) (rest := [.int x1]) C hW hS (kdlt (chX11_1 ho0) (by decide)) (ccX8 (chX11_1 ho0)) kcX8 (mX8_size (o0 + 33) (chX11_1 ho0) σ v9 h9) cwX8_size cvX8_size rfl mlX11_107 ⟨by decide, by decide⟩ rfl hl.1 (Nat.le_of_ble_eq_true rfl) ⟨by decide, by decide⟩ dX11_truncate_9 rfl (fun H locs hW hS => ?_)
    refine lv_icmp_le (tgt := 25) hx0 hb dX11_truncate_12 (by decide) (fun c12 => ?_) (fun c12 => ?_)
    · rw [if_pos c12] at h
      refine lv_aload_n hx0 hb dX11_truncate_25 rfl (lv_at hl 0 rfl) ?_
      refine gtX11_1 (k := o0) C hW ho0 flX11_20 dX11_truncate_26 ?_
      refine lv_iload_n hx0 hb dX11_truncate_29 rfl (lv_at hl 1 rfl) ?_
      obtain ⟨v30, h30, h⟩ := bnd h
      try dsimp only at h
      refine w_callV (L := (LC E b)) (k := o0 + 33) (As := [.int x1]) (rest := []) C hW hS (kdlt (chX11_1 ho0) (by decide)) (ccX8 (chX11_1 ho0)) kcX8 (mX8_shortenTo (o0 + 33) x1 (chX11_1 ho0) σ v30 h30) cwX8_shortenTo cvX8_shortenTo rfl mlX11_126 ⟨by decide, by decide⟩ rfl hl.1 (Nat.le_of_ble_eq_true rfl) ⟨by decide, by decide⟩ dX11_truncate_30 rfl (fun H locs hW hS => ?_)
      refine lv_iload_n hx0 hb dX11_truncate_33 rfl (lv_at hl 1 rfl) ?_
      cases h
      exact x_iret C hW hS (by decide) (by decide) dX11_truncate_34
    · rw [if_neg c12] at h
      cases h
      exact x_throw (n := 1) (si := 22) C hT (by decide +kernel) xat1 xgd1 xcl1 xin1 rfl hW hS hl.1 ⟨by decide, Nat.le_of_ble_eq_true rfl⟩ ⟨by decide, by decide⟩ (by decide) (by decide) dX11_truncate_15 dX11_truncate_18 dX11_truncate_19 dX11_truncate_21 dX11_truncate_24
def fX11_errorPosition (o0 : Nat) (σ : Mem) : Option (Int32 × Mem) :=
  (fX6_firstError (o0 + 1) σ).bind fun v4 => some (v4.1, v4.2)
set_option maxRecDepth 100000 in
set_option maxHeartbeats 4000000 in
theorem mX11_errorPosition {l : Launch} {E : Ev} {b : Nat} (o0 : Nat) (ho0 : kd o0 = 11) (σ : Mem) (r : (Int32 × Mem)) (h : fX11_errorPosition o0 σ = some r) : Met l yX11_errorPosition (tw yX11_errorPosition cX11_errorPosition 1 (some .int)) { frames := 9, cells := 0, slots := 0, locals := 267 } (va_Pc [.ref (b + o0)] (Pr l E (LC E b) σ)) (Qz E (LC E b) (some (.int r.1)) r.2) 0 0 (La (LC E b)) := by
  refine ct_of (by decide) (Nat.le_of_ble_eq_true rfl) ?_
  intro p e s m below meth c C hW hS ls hl
  have hx0 := C.1
  have hb := C.2.1
  have hl : lv_has ls 1 [(0, .ref (b + o0))] := hl
  unfold fX11_errorPosition at h
  refine lv_aload_n hx0 hb dX11_errorPosition_0 rfl (lv_at hl 0 rfl) ?_
  refine gtX11_0 (k := o0) C hW ho0 flX11_12 dX11_errorPosition_1 ?_
  obtain ⟨v4, h4, h⟩ := bnd h
  try dsimp only at h
  refine w_callV (L := (LC E b)) (k := o0 + 1) (As := []) (rest := []) C hW hS (kdlt (chX11_0 ho0) (by decide)) (ccX6 (chX11_0 ho0)) kcX6 (mX6_firstError (o0 + 1) (chX11_0 ho0) σ v4 h4) cwX6_firstError cvX6_firstError rfl mlX11_129 ⟨by decide, by decide⟩ rfl hl.1 (Nat.le_of_ble_eq_true rfl) ⟨by decide, by decide⟩ dX11_errorPosition_4 rfl (fun H locs hW hS => ?_)
  cases h
  exact w_iret C hW hS dX11_errorPosition_7
def fX11_load (o0 : Nat) (σ : Mem) : Option Rx :=
  (fX6_firstError (o0 + 1) σ).bind fun v4 => if v4.1 = (-1 : Int32) then ((fX7_copyFrom (o0 + 41) ((o0 + 1) + 1) v4.2).bind fun v32 => (fX0_clear (o0 + 79) v32).bind fun v39 => (fX8_shortenTo (o0 + 33) (0 : Int32) (up v39 o0 13 (0 : Int32))).bind fun v52 => (fX10_leafCount (o0 + 42) v52).bind fun v59 => some (.inr v59, v52)) else (some (.inl 1, v4.2))
set_option maxRecDepth 100000 in
set_option maxHeartbeats 4000000 in
theorem mX11_load {l : Launch} {E : Ev} {b : Nat} (o0 : Nat) (ho0 : kd o0 = 11) (σ : Mem) (r : Rx) (h : fX11_load o0 σ = some r) : vx_Met l yX11_load (tw yX11_load cX11_load 1 (some .int)) { frames := 9, cells := 1, slots := 6, locals := 267 } (va_Pc [.ref (b + o0)] (Pr l E (LC E b) σ)) (Qx E (LC E b) rvI r) (Xx E (LC E b) r) 1 6 (La (LC E b)) := by
  refine cx_of (by decide) (Nat.le_of_ble_eq_true rfl) ?_
  intro p e s m below meth c C hT hW hS ls hl
  have hx0 := C.1
  have hb := C.2.1
  have hl : lv_has ls 1 [(0, .ref (b + o0))] := hl
  unfold fX11_load at h
  refine lv_aload_n hx0 hb dX11_load_0 rfl (lv_at hl 0 rfl) ?_
  refine gtX11_0 (k := o0) C hW ho0 flX11_12 dX11_load_1 ?_
  obtain ⟨v4, h4, h⟩ := bnd h
  try dsimp only at h
  refine w_callV (L := (LC E b)) (k := o0 + 1) (As := []) (rest := []) C hW hS (kdlt (chX11_0 ho0) (by decide)) (ccX6 (chX11_0 ho0)) kcX6 (mX6_firstError (o0 + 1) (chX11_0 ho0) σ v4 h4) cwX6_firstError cvX6_firstError rfl mlX11_129 ⟨by decide, by decide⟩ rfl hl.1 (Nat.le_of_ble_eq_true rfl) ⟨by decide, by decide⟩ dX11_load_4 rfl (fun H locs hW hS => ?_)
  refine lv_iconst (v := (-1 : Int32)) hx0 hb dX11_load_7 (by decide) ?_
  refine lv_icmp_eq (tgt := 21) hx0 hb dX11_load_8 (by decide) (fun c8 => ?_) (fun c8 => ?_)
  · rw [if_pos c8] at h
    refine lv_aload_n hx0 hb dX11_load_21 rfl (lv_at hl 0 rfl) ?_
    refine gtX11_5 (k := o0) C hW ho0 flX11_40 dX11_load_22 ?_
    refine lv_aload_n hx0 hb dX11_load_25 rfl (lv_at hl 0 rfl) ?_
    refine gtX11_0 (k := o0) C hW ho0 flX11_12 dX11_load_26 ?_
    refine gtX6_0 (k := o0 + 1) C hW (chX11_0 ho0) flX11_134 dX11_load_29 ?_
    obtain ⟨v32, h32, h⟩ := bnd h
    try dsimp only at h
    refine w_callV (L := (LC E b)) (k := o0 + 41) (As := [.ref (b + ((o0 + 1) + 1))]) (rest := []) C hW hS (kdlt (chX11_5 ho0) (by decide)) (ccX7 (chX11_5 ho0)) kcX7 (mX7_copyFrom (o0 + 41) ((o0 + 1) + 1) (chX11_5 ho0) (chX6_0 (chX11_0 ho0)) v4.2 v32 h32) cwX7_copyFrom cvX7_copyFrom rfl mlX11_137 ⟨by decide, by decide⟩ rfl hl.1 (Nat.le_of_ble_eq_true rfl) ⟨by decide, by decide⟩ dX11_load_32 rfl (fun H locs hW hS => ?_)
    refine lv_aload_n hx0 hb dX11_load_35 rfl (lv_at hl 0 rfl) ?_
    refine gtX11_11 (k := o0) C hW ho0 flX11_73 dX11_load_36 ?_
    obtain ⟨v39, h39, h⟩ := bnd h
    try dsimp only at h
    refine w_callV (L := (LC E b)) (k := o0 + 79) (As := []) (rest := []) C hW hS (kdlt (chX11_11 ho0) (by decide)) (ccX0 (chX11_11 ho0)) kcX0 (mX0_clear (o0 + 79) (chX11_11 ho0) v32 v39 h39) cwX0_clear cvX0_clear rfl mlX11_141 ⟨by decide, by decide⟩ rfl hl.1 (Nat.le_of_ble_eq_true rfl) ⟨by decide, by decide⟩ dX11_load_39 rfl (fun H locs hW hS => ?_)
    refine lv_aload_n hx0 hb dX11_load_42 rfl (lv_at hl 0 rfl) ?_
    refine lv_iconst (v := (0 : Int32)) hx0 hb dX11_load_43 (by decide) ?_
    refine ptX11_13 (k := o0) (Or.inl rfl) C hW hS ho0 flX11_80 dX11_load_44 (fun H locs hW hS => ?_)
    refine lv_aload_n hx0 hb dX11_load_47 rfl (lv_at hl 0 rfl) ?_
    refine gtX11_1 (k := o0) C hW ho0 flX11_20 dX11_load_48 ?_
    refine lv_iconst (v := (0 : Int32)) hx0 hb dX11_load_51 (by decide) ?_
    obtain ⟨v52, h52, h⟩ := bnd h
    try dsimp only at h
    refine w_callV (L := (LC E b)) (k := o0 + 33) (As := [.int (0 : Int32)]) (rest := []) C hW hS (kdlt (chX11_1 ho0) (by decide)) (ccX8 (chX11_1 ho0)) kcX8 (mX8_shortenTo (o0 + 33) (0 : Int32) (chX11_1 ho0) (up v39 o0 13 (0 : Int32)) v52 h52) cwX8_shortenTo cvX8_shortenTo rfl mlX11_126 ⟨by decide, by decide⟩ rfl hl.1 (Nat.le_of_ble_eq_true rfl) ⟨by decide, by decide⟩ dX11_load_52 rfl (fun H locs hW hS => ?_)
    refine lv_aload_n hx0 hb dX11_load_55 rfl (lv_at hl 0 rfl) ?_
    refine gtX11_6 (k := o0) C hW ho0 flX11_48 dX11_load_56 ?_
    obtain ⟨v59, h59, h⟩ := bnd h
    try dsimp only at h
    refine w_callV (L := (LC E b)) (k := o0 + 42) (As := []) (rest := []) C hW hS (kdlt (chX11_6 ho0) (by decide)) (ccX10 (chX11_6 ho0)) kcX10 (mX10_leafCount (o0 + 42) (chX11_6 ho0) v52 v59 h59) cwX10_leafCount cvX10_leafCount rfl mlX11_144 ⟨by decide, by decide⟩ rfl hl.1 (Nat.le_of_ble_eq_true rfl) ⟨by decide, by decide⟩ dX11_load_59 rfl (fun H locs hW hS => ?_)
    cases h
    exact x_iret C hW hS (by decide) (by decide) dX11_load_62
  · rw [if_neg c8] at h
    cases h
    exact x_throw (n := 1) (si := 23) C hT (by decide +kernel) xat1 xgd1 xcl1 xin1 rfl hW hS hl.1 ⟨by decide, Nat.le_of_ble_eq_true rfl⟩ ⟨by decide, by decide⟩ (by decide) (by decide) dX11_load_11 dX11_load_14 dX11_load_15 dX11_load_17 dX11_load_20
def fX11_requireLeaf (o0 : Nat) (x1 : Int32) (σ : Mem) : Option Rx :=
  (fX10_hasLeaf (o0 + 42) x1 σ).bind fun v5 => if v5 = 0 then (some (.inl 2, σ)) else (some (.inr 0, σ))
set_option maxRecDepth 100000 in
set_option maxHeartbeats 4000000 in
theorem mX11_requireLeaf {l : Launch} {E : Ev} {b : Nat} (o0 : Nat) (x1 : Int32) (ho0 : kd o0 = 11) (σ : Mem) (r : Rx) (h : fX11_requireLeaf o0 x1 σ = some r) : vx_Met l yX11_requireLeaf (tw yX11_requireLeaf cX11_requireLeaf 2 none) { frames := 6, cells := 1, slots := 6, locals := 90 } (va_Pc [.ref (b + o0), .int x1] (Pr l E (LC E b) σ)) (Qx E (LC E b) rvV r) (Xx E (LC E b) r) 1 6 (La (LC E b)) := by
  refine cx_of (by decide) (Nat.le_of_ble_eq_true rfl) ?_
  intro p e s m below meth c C hT hW hS ls hl
  have hx0 := C.1
  have hb := C.2.1
  have hl : lv_has ls 2 [(0, .ref (b + o0)), (1, .int x1)] := hl
  unfold fX11_requireLeaf at h
  refine lv_aload_n hx0 hb dX11_requireLeaf_0 rfl (lv_at hl 0 rfl) ?_
  refine gtX11_6 (k := o0) C hW ho0 flX11_48 dX11_requireLeaf_1 ?_
  refine lv_iload_n hx0 hb dX11_requireLeaf_4 rfl (lv_at hl 1 rfl) ?_
  obtain ⟨v5, h5, h⟩ := bnd h
  try dsimp only at h
  refine w_callV (L := (LC E b)) (k := o0 + 42) (As := [.int x1]) (rest := []) C hW hS (kdlt (chX11_6 ho0) (by decide)) (ccX10 (chX11_6 ho0)) kcX10 (mX10_hasLeaf (o0 + 42) x1 (chX11_6 ho0) σ v5 h5) cwX10_hasLeaf cvX10_hasLeaf rfl mlX11_454 ⟨by decide, by decide⟩ rfl hl.1 (Nat.le_of_ble_eq_true rfl) ⟨by decide, by decide⟩ dX11_requireLeaf_5 rfl (fun H locs hW hS => ?_)
  refine lv_if_ne (tgt := 22) hx0 hb dX11_requireLeaf_8 (by decide) (fun c8 => ?_) (fun c8 => ?_)
  · rw [if_neg c8] at h
    cases h
    exact x_vret C hW hS (by decide) (by decide) dX11_requireLeaf_22
  · rw [if_pos c8] at h
    cases h
    exact x_throwW (n := 2) (si := 24) C hT (by decide +kernel) xat2 xgd2 xcl2 xin2 rfl hW hS hl.1 ⟨by decide, Nat.le_of_ble_eq_true rfl⟩ ⟨by decide, by decide⟩ (by decide) (by decide) dX11_requireLeaf_11 dX11_requireLeaf_14 dX11_requireLeaf_15 dX11_requireLeaf_18 dX11_requireLeaf_21
def fX11_lose (o0 : Nat) (x1 : Int32) (σ : Mem) : Option Rx :=
  (fX11_requireLeaf o0 x1 σ).bind fun v2 => match v2.1 with | .inl n2 => some (.inl n2, v2.2) | .inr a2 => (fX10_isPresent (o0 + 42) x1 v2.2).bind fun v10 => if v10 = 0 then (some (.inl 0, v2.2)) else ((fX10_hasSlips (o0 + 42) x1 x1 v2.2).bind fun v22 => if v22 = 0 then ((fX0_keep (o0 + 79) (o0 + 41) v2.2).bind fun v46 => (fX10_setMissing (o0 + 42) x1 (1 : Int32) v46).bind fun v55 => (fX9_reset (o0 + 69) v55).bind fun v62 => (fX10_presentCount (o0 + 42) v62).bind fun v69 => some (.inr v69, v62)) else (some (.inl 0, v2.2)))
set_option maxRecDepth 100000 in
set_option maxHeartbeats 4000000 in
theorem mX11_lose {l : Launch} {E : Ev} {b : Nat} (o0 : Nat) (x1 : Int32) (ho0 : kd o0 = 11) (σ : Mem) (r : Rx) (h : fX11_lose o0 x1 σ = some r) : vx_Met l yX11_lose (tw yX11_lose cX11_lose 2 (some .int)) { frames := 7, cells := 2, slots := 12, locals := 126 } (va_Pc [.ref (b + o0), .int x1] (Pr l E (LC E b) σ)) (Qx E (LC E b) rvI r) (Xx E (LC E b) r) 2 12 (La (LC E b)) := by
  refine cx_of (by decide) (Nat.le_of_ble_eq_true rfl) ?_
  intro p e s m below meth c C hT hW hS ls hl
  have hx0 := C.1
  have hb := C.2.1
  have hl : lv_has ls 2 [(0, .ref (b + o0)), (1, .int x1)] := hl
  unfold fX11_lose at h
  refine lv_aload_n hx0 hb dX11_lose_0 rfl (lv_at hl 0 rfl) ?_
  refine lv_iload_n hx0 hb dX11_lose_1 rfl (lv_at hl 1 rfl) ?_
  obtain ⟨v2, h2, h⟩ := bnd h
  try dsimp only at h
  refine x_callV (L := (LC E b)) (k := o0) (As := [.int x1]) (rest := []) C hW hS (kdlt ho0 (by decide)) (ccX11 ho0) kcX11 (mX11_requireLeaf o0 x1 ho0 σ v2 h2) cwX11_requireLeaf cvX11_requireLeaf rfl mlX11_150 ⟨by decide, by decide⟩ rfl hl.1 (Nat.le_of_ble_eq_true rfl) ⟨by decide, by decide⟩ dX11_lose_2 rfl (fun n2 e2 H locs q ce hW hS hq hv hc => by rw [e2] at h; (try dsimp only at h); cases h; exact x_out C hT hW hS hq hv hc (by decide) (by decide)) (fun a2 e2 H locs hW hS => ?_)
  rw [e2] at h
  try dsimp only at h
  refine lv_aload_n hx0 hb dX11_lose_5 rfl (lv_at hl 0 rfl) ?_
  refine gtX11_6 (k := o0) C hW ho0 flX11_48 dX11_lose_6 ?_
  refine lv_iload_n hx0 hb dX11_lose_9 rfl (lv_at hl 1 rfl) ?_
  obtain ⟨v10, h10, h⟩ := bnd h
  try dsimp only at h
  refine w_callV (L := (LC E b)) (k := o0 + 42) (As := [.int x1]) (rest := []) C hW hS (kdlt (chX11_6 ho0) (by decide)) (ccX10 (chX11_6 ho0)) kcX10 (mX10_isPresent (o0 + 42) x1 (chX11_6 ho0) v2.2 v10 h10) cwX10_isPresent cvX10_isPresent rfl mlX11_153 ⟨by decide, by decide⟩ rfl hl.1 (Nat.le_of_ble_eq_true rfl) ⟨by decide, by decide⟩ dX11_lose_10 rfl (fun H locs hW hS => ?_)
  refine lv_if_eq (tgt := 28) hx0 hb dX11_lose_13 (by decide) (fun c13 => ?_) (fun c13 => ?_)
  · rw [if_pos c13] at h
    cases h
    exact x_throw (n := 0) (si := 25) C hT (by decide +kernel) xat0 xgd0 xcl0 xin0 rfl hW hS hl.1 ⟨by decide, Nat.le_of_ble_eq_true rfl⟩ ⟨by decide, by decide⟩ (by decide) (by decide) dX11_lose_28 dX11_lose_31 dX11_lose_32 dX11_lose_34 dX11_lose_37
  · rw [if_neg c13] at h
    refine lv_aload_n hx0 hb dX11_lose_16 rfl (lv_at hl 0 rfl) ?_
    refine gtX11_6 (k := o0) C hW ho0 flX11_48 dX11_lose_17 ?_
    refine lv_iload_n hx0 hb dX11_lose_20 rfl (lv_at hl 1 rfl) ?_
    refine lv_iload_n hx0 hb dX11_lose_21 rfl (lv_at hl 1 rfl) ?_
    obtain ⟨v22, h22, h⟩ := bnd h
    try dsimp only at h
    refine w_callV (L := (LC E b)) (k := o0 + 42) (As := [.int x1, .int x1]) (rest := []) C hW hS (kdlt (chX11_6 ho0) (by decide)) (ccX10 (chX11_6 ho0)) kcX10 (mX10_hasSlips (o0 + 42) x1 x1 (chX11_6 ho0) v2.2 v22 h22) cwX10_hasSlips cvX10_hasSlips rfl mlX11_157 ⟨by decide, by decide⟩ rfl hl.1 (Nat.le_of_ble_eq_true rfl) ⟨by decide, by decide⟩ dX11_lose_22 rfl (fun H locs hW hS => ?_)
    refine lv_if_eq (tgt := 38) hx0 hb dX11_lose_25 (by decide) (fun c25 => ?_) (fun c25 => ?_)
    · rw [if_pos c25] at h
      refine lv_aload_n hx0 hb dX11_lose_38 rfl (lv_at hl 0 rfl) ?_
      refine gtX11_11 (k := o0) C hW ho0 flX11_73 dX11_lose_39 ?_
      refine lv_aload_n hx0 hb dX11_lose_42 rfl (lv_at hl 0 rfl) ?_
      refine gtX11_5 (k := o0) C hW ho0 flX11_40 dX11_lose_43 ?_
      obtain ⟨v46, h46, h⟩ := bnd h
      try dsimp only at h
      refine w_callV (L := (LC E b)) (k := o0 + 79) (As := [.ref (b + (o0 + 41))]) (rest := []) C hW hS (kdlt (chX11_11 ho0) (by decide)) (ccX0 (chX11_11 ho0)) kcX0 (mX0_keep (o0 + 79) (o0 + 41) (chX11_11 ho0) (chX11_5 ho0) v2.2 v46 h46) cwX0_keep cvX0_keep rfl mlX11_163 ⟨by decide, by decide⟩ rfl hl.1 (Nat.le_of_ble_eq_true rfl) ⟨by decide, by decide⟩ dX11_lose_46 rfl (fun H locs hW hS => ?_)
      refine lv_aload_n hx0 hb dX11_lose_49 rfl (lv_at hl 0 rfl) ?_
      refine gtX11_6 (k := o0) C hW ho0 flX11_48 dX11_lose_50 ?_
      refine lv_iload_n hx0 hb dX11_lose_53 rfl (lv_at hl 1 rfl) ?_
      refine lv_iconst (v := (1 : Int32)) hx0 hb dX11_lose_54 (by decide) ?_
      obtain ⟨v55, h55, h⟩ := bnd h
      try dsimp only at h
      refine w_callV (L := (LC E b)) (k := o0 + 42) (As := [.int x1, .int (1 : Int32)]) (rest := []) C hW hS (kdlt (chX11_6 ho0) (by decide)) (ccX10 (chX11_6 ho0)) kcX10 (mX10_setMissing (o0 + 42) x1 (1 : Int32) (chX11_6 ho0) v46 v55 h55) cwX10_setMissing cvX10_setMissing rfl mlX11_166 ⟨by decide, by decide⟩ rfl hl.1 (Nat.le_of_ble_eq_true rfl) ⟨by decide, by decide⟩ dX11_lose_55 rfl (fun H locs hW hS => ?_)
      refine lv_aload_n hx0 hb dX11_lose_58 rfl (lv_at hl 0 rfl) ?_
      refine gtX11_9 (k := o0) C hW ho0 flX11_63 dX11_lose_59 ?_
      obtain ⟨v62, h62, h⟩ := bnd h
      try dsimp only at h
      refine w_callV (L := (LC E b)) (k := o0 + 69) (As := []) (rest := []) C hW hS (kdlt (chX11_9 ho0) (by decide)) (ccX9 (chX11_9 ho0)) kcX9 (mX9_reset (o0 + 69) (chX11_9 ho0) v55 v62 h62) cwX9_reset cvX9_reset rfl mlX11_170 ⟨by decide, by decide⟩ rfl hl.1 (Nat.le_of_ble_eq_true rfl) ⟨by decide, by decide⟩ dX11_lose_62 rfl (fun H locs hW hS => ?_)
      refine lv_aload_n hx0 hb dX11_lose_65 rfl (lv_at hl 0 rfl) ?_
      refine gtX11_6 (k := o0) C hW ho0 flX11_48 dX11_lose_66 ?_
      obtain ⟨v69, h69, h⟩ := bnd h
      try dsimp only at h
      refine w_callV (L := (LC E b)) (k := o0 + 42) (As := []) (rest := []) C hW hS (kdlt (chX11_6 ho0) (by decide)) (ccX10 (chX11_6 ho0)) kcX10 (mX10_presentCount (o0 + 42) (chX11_6 ho0) v62 v69 h69) cwX10_presentCount cvX10_presentCount rfl mlX11_175 ⟨by decide, by decide⟩ rfl hl.1 (Nat.le_of_ble_eq_true rfl) ⟨by decide, by decide⟩ dX11_lose_69 rfl (fun H locs hW hS => ?_)
      cases h
      exact x_iret C hW hS (by decide) (by decide) dX11_lose_72
    · rw [if_neg c25] at h
      cases h
      exact x_throw (n := 0) (si := 25) C hT (by decide +kernel) xat0 xgd0 xcl0 xin0 rfl hW hS hl.1 ⟨by decide, Nat.le_of_ble_eq_true rfl⟩ ⟨by decide, by decide⟩ (by decide) (by decide) dX11_lose_28 dX11_lose_31 dX11_lose_32 dX11_lose_34 dX11_lose_37
def fX11_find (o0 : Nat) (x1 : Int32) (σ : Mem) : Option Rx :=
  (fX11_requireLeaf o0 x1 σ).bind fun v2 => match v2.1 with | .inl n2 => some (.inl n2, v2.2) | .inr a2 => (fX10_isPresent (o0 + 42) x1 v2.2).bind fun v10 => if v10 = 0 then ((fX0_keep (o0 + 79) (o0 + 41) v2.2).bind fun v34 => (fX10_setMissing (o0 + 42) x1 (0 : Int32) v34).bind fun v43 => (fX9_reset (o0 + 69) v43).bind fun v50 => (fX10_presentCount (o0 + 42) v50).bind fun v57 => some (.inr v57, v50)) else (some (.inl 0, v2.2))
set_option maxRecDepth 100000 in
set_option maxHeartbeats 4000000 in
theorem mX11_find {l : Launch} {E : Ev} {b : Nat} (o0 : Nat) (x1 : Int32) (ho0 : kd o0 = 11) (σ : Mem) (r : Rx) (h : fX11_find o0 x1 σ = some r) : vx_Met l yX11_find (tw yX11_find cX11_find 2 (some .int)) { frames := 7, cells := 2, slots := 12, locals := 126 } (va_Pc [.ref (b + o0), .int x1] (Pr l E (LC E b) σ)) (Qx E (LC E b) rvI r) (Xx E (LC E b) r) 2 12 (La (LC E b)) := by
  refine cx_of (by decide) (Nat.le_of_ble_eq_true rfl) ?_
  intro p e s m below meth c C hT hW hS ls hl
  have hx0 := C.1
  have hb := C.2.1
  have hl : lv_has ls 2 [(0, .ref (b + o0)), (1, .int x1)] := hl
  unfold fX11_find at h
  refine lv_aload_n hx0 hb dX11_find_0 rfl (lv_at hl 0 rfl) ?_
  refine lv_iload_n hx0 hb dX11_find_1 rfl (lv_at hl 1 rfl) ?_
  obtain ⟨v2, h2, h⟩ := bnd h
  try dsimp only at h
  refine x_callV (L := (LC E b)) (k := o0) (As := [.int x1]) (rest := []) C hW hS (kdlt ho0 (by decide)) (ccX11 ho0) kcX11 (mX11_requireLeaf o0 x1 ho0 σ v2 h2) cwX11_requireLeaf cvX11_requireLeaf rfl mlX11_150 ⟨by decide, by decide⟩ rfl hl.1 (Nat.le_of_ble_eq_true rfl) ⟨by decide, by decide⟩ dX11_find_2 rfl (fun n2 e2 H locs q ce hW hS hq hv hc => by rw [e2] at h; (try dsimp only at h); cases h; exact x_out C hT hW hS hq hv hc (by decide) (by decide)) (fun a2 e2 H locs hW hS => ?_)
  rw [e2] at h
  try dsimp only at h
  refine lv_aload_n hx0 hb dX11_find_5 rfl (lv_at hl 0 rfl) ?_
  refine gtX11_6 (k := o0) C hW ho0 flX11_48 dX11_find_6 ?_
  refine lv_iload_n hx0 hb dX11_find_9 rfl (lv_at hl 1 rfl) ?_
  obtain ⟨v10, h10, h⟩ := bnd h
  try dsimp only at h
  refine w_callV (L := (LC E b)) (k := o0 + 42) (As := [.int x1]) (rest := []) C hW hS (kdlt (chX11_6 ho0) (by decide)) (ccX10 (chX11_6 ho0)) kcX10 (mX10_isPresent (o0 + 42) x1 (chX11_6 ho0) v2.2 v10 h10) cwX10_isPresent cvX10_isPresent rfl mlX11_153 ⟨by decide, by decide⟩ rfl hl.1 (Nat.le_of_ble_eq_true rfl) ⟨by decide, by decide⟩ dX11_find_10 rfl (fun H locs hW hS => ?_)
  refine lv_if_eq (tgt := 26) hx0 hb dX11_find_13 (by decide) (fun c13 => ?_) (fun c13 => ?_)
  · rw [if_pos c13] at h
    refine lv_aload_n hx0 hb dX11_find_26 rfl (lv_at hl 0 rfl) ?_
    refine gtX11_11 (k := o0) C hW ho0 flX11_73 dX11_find_27 ?_
    refine lv_aload_n hx0 hb dX11_find_30 rfl (lv_at hl 0 rfl) ?_
    refine gtX11_5 (k := o0) C hW ho0 flX11_40 dX11_find_31 ?_
    obtain ⟨v34, h34, h⟩ := bnd h
    try dsimp only at h
    refine w_callV (L := (LC E b)) (k := o0 + 79) (As := [.ref (b + (o0 + 41))]) (rest := []) C hW hS (kdlt (chX11_11 ho0) (by decide)) (ccX0 (chX11_11 ho0)) kcX0 (mX0_keep (o0 + 79) (o0 + 41) (chX11_11 ho0) (chX11_5 ho0) v2.2 v34 h34) cwX0_keep cvX0_keep rfl mlX11_163 ⟨by decide, by decide⟩ rfl hl.1 (Nat.le_of_ble_eq_true rfl) ⟨by decide, by decide⟩ dX11_find_34 rfl (fun H locs hW hS => ?_)
    refine lv_aload_n hx0 hb dX11_find_37 rfl (lv_at hl 0 rfl) ?_
    refine gtX11_6 (k := o0) C hW ho0 flX11_48 dX11_find_38 ?_
    refine lv_iload_n hx0 hb dX11_find_41 rfl (lv_at hl 1 rfl) ?_
    refine lv_iconst (v := (0 : Int32)) hx0 hb dX11_find_42 (by decide) ?_
    obtain ⟨v43, h43, h⟩ := bnd h
    try dsimp only at h
    refine w_callV (L := (LC E b)) (k := o0 + 42) (As := [.int x1, .int (0 : Int32)]) (rest := []) C hW hS (kdlt (chX11_6 ho0) (by decide)) (ccX10 (chX11_6 ho0)) kcX10 (mX10_setMissing (o0 + 42) x1 (0 : Int32) (chX11_6 ho0) v34 v43 h43) cwX10_setMissing cvX10_setMissing rfl mlX11_166 ⟨by decide, by decide⟩ rfl hl.1 (Nat.le_of_ble_eq_true rfl) ⟨by decide, by decide⟩ dX11_find_43 rfl (fun H locs hW hS => ?_)
    refine lv_aload_n hx0 hb dX11_find_46 rfl (lv_at hl 0 rfl) ?_
    refine gtX11_9 (k := o0) C hW ho0 flX11_63 dX11_find_47 ?_
    obtain ⟨v50, h50, h⟩ := bnd h
    try dsimp only at h
    refine w_callV (L := (LC E b)) (k := o0 + 69) (As := []) (rest := []) C hW hS (kdlt (chX11_9 ho0) (by decide)) (ccX9 (chX11_9 ho0)) kcX9 (mX9_reset (o0 + 69) (chX11_9 ho0) v43 v50 h50) cwX9_reset cvX9_reset rfl mlX11_170 ⟨by decide, by decide⟩ rfl hl.1 (Nat.le_of_ble_eq_true rfl) ⟨by decide, by decide⟩ dX11_find_50 rfl (fun H locs hW hS => ?_)
    refine lv_aload_n hx0 hb dX11_find_53 rfl (lv_at hl 0 rfl) ?_
    refine gtX11_6 (k := o0) C hW ho0 flX11_48 dX11_find_54 ?_
    obtain ⟨v57, h57, h⟩ := bnd h
    try dsimp only at h
    refine w_callV (L := (LC E b)) (k := o0 + 42) (As := []) (rest := []) C hW hS (kdlt (chX11_6 ho0) (by decide)) (ccX10 (chX11_6 ho0)) kcX10 (mX10_presentCount (o0 + 42) (chX11_6 ho0) v50 v57 h57) cwX10_presentCount cvX10_presentCount rfl mlX11_175 ⟨by decide, by decide⟩ rfl hl.1 (Nat.le_of_ble_eq_true rfl) ⟨by decide, by decide⟩ dX11_find_57 rfl (fun H locs hW hS => ?_)
    cases h
    exact x_iret C hW hS (by decide) (by decide) dX11_find_60
  · rw [if_neg c13] at h
    cases h
    exact x_throw (n := 0) (si := 26) C hT (by decide +kernel) xat0 xgd0 xcl0 xin0 rfl hW hS hl.1 ⟨by decide, Nat.le_of_ble_eq_true rfl⟩ ⟨by decide, by decide⟩ (by decide) (by decide) dX11_find_16 dX11_find_19 dX11_find_20 dX11_find_22 dX11_find_25
def fX11_requireSide (x0 : Int32) (σ : Mem) : Option Rx :=
  if x0 = 0 then (some (.inr 0, σ)) else (if x0 = (1 : Int32) then (some (.inr 0, σ)) else (some (.inl 1, σ)))
set_option maxRecDepth 100000 in
set_option maxHeartbeats 4000000 in
theorem mX11_requireSide {l : Launch} {E : Ev} {b : Nat} (x0 : Int32) (σ : Mem) (r : Rx) (h : fX11_requireSide x0 σ = some r) : vx_Met l yX11_requireSide (tw yX11_requireSide cX11_requireSide 1 none) { frames := 6, cells := 1, slots := 6, locals := 90 } (va_Pc [.int x0] (Pr l E (LC E b) σ)) (Qx E (LC E b) rvV r) (Xx E (LC E b) r) 1 6 (La (LC E b)) := by
  refine cx_of (by decide) (Nat.le_of_ble_eq_true rfl) ?_
  intro p e s m below meth c C hT hW hS ls hl
  have hx0 := C.1
  have hb := C.2.1
  have hl : lv_has ls 1 [(0, .int x0)] := hl
  unfold fX11_requireSide at h
  refine lv_iload_n hx0 hb dX11_requireSide_0 rfl (lv_at hl 0 rfl) ?_
  refine lv_if_eq (tgt := 20) hx0 hb dX11_requireSide_1 (by decide) (fun c1 => ?_) (fun c1 => ?_)
  · rw [if_pos c1] at h
    cases h
    exact x_vret C hW hS (by decide) (by decide) dX11_requireSide_20
  · rw [if_neg c1] at h
    refine lv_iload_n hx0 hb dX11_requireSide_4 rfl (lv_at hl 0 rfl) ?_
    refine lv_iconst (v := (1 : Int32)) hx0 hb dX11_requireSide_5 (by decide) ?_
    refine lv_icmp_eq (tgt := 20) hx0 hb dX11_requireSide_6 (by decide) (fun c6 => ?_) (fun c6 => ?_)
    · rw [if_pos c6] at h
      cases h
      exact x_vret C hW hS (by decide) (by decide) dX11_requireSide_20
    · rw [if_neg c6] at h
      cases h
      exact x_throwW (n := 1) (si := 27) C hT (by decide +kernel) xat1 xgd1 xcl1 xin1 rfl hW hS hl.1 ⟨by decide, Nat.le_of_ble_eq_true rfl⟩ ⟨by decide, by decide⟩ (by decide) (by decide) dX11_requireSide_9 dX11_requireSide_12 dX11_requireSide_13 dX11_requireSide_16 dX11_requireSide_19
def fX11_attach (o0 : Nat) (x1 : Int32) (x2 : Int32) (x3 : Int32) (σ : Mem) : Option Rx :=
  (fX11_requireLeaf o0 x1 σ).bind fun v2 => match v2.1 with | .inl n2 => some (.inl n2, v2.2) | .inr a2 => (fX11_requireSide x2 v2.2).bind fun v6 => match v6.1 with | .inl n6 => some (.inl n6, v6.2) | .inr a6 => (fX11_isSlipSize x3 v6.2).bind fun v10 => if v10 = 0 then (some (.inl 1, v6.2)) else ((fX10_isPresent (o0 + 42) x1 v6.2).bind fun v31 => if v31 = 0 then (some (.inl 0, v6.2)) else ((fX10_takesSlip (o0 + 42) v6.2).bind fun v41 => if v41 = 0 then (some (.inl 0, v6.2)) else ((fX0_keep (o0 + 79) (o0 + 41) v6.2).bind fun v65 => (fX10_addSlip (o0 + 42) x1 x2 x3 v65).bind fun v75 => (fX10_slipCount (o0 + 42) v75).bind fun v82 => some (.inr (v82 - (1 : Int32)), v75))))
set_option maxRecDepth 100000 in
set_option maxHeartbeats 4000000 in
theorem mX11_attach {l : Launch} {E : Ev} {b : Nat} (o0 : Nat) (x1 : Int32) (x2 : Int32) (x3 : Int32) (ho0 : kd o0 = 11) (σ : Mem) (r : Rx) (h : fX11_attach o0 x1 x2 x3 σ = some r) : vx_Met l yX11_attach (tw yX11_attach cX11_attach 4 (some .int)) { frames := 7, cells := 3, slots := 18, locals := 126 } (va_Pc [.ref (b + o0), .int x1, .int x2, .int x3] (Pr l E (LC E b) σ)) (Qx E (LC E b) rvI r) (Xx E (LC E b) r) 3 18 (La (LC E b)) := by
  refine cx_of (by decide) (Nat.le_of_ble_eq_true rfl) ?_
  intro p e s m below meth c C hT hW hS ls hl
  have hx0 := C.1
  have hb := C.2.1
  have hl : lv_has ls 4 [(0, .ref (b + o0)), (1, .int x1), (2, .int x2), (3, .int x3)] := hl
  unfold fX11_attach at h
  refine lv_aload_n hx0 hb dX11_attach_0 rfl (lv_at hl 0 rfl) ?_
  refine lv_iload_n hx0 hb dX11_attach_1 rfl (lv_at hl 1 rfl) ?_
  obtain ⟨v2, h2, h⟩ := bnd h
  try dsimp only at h
  refine x_callV (L := (LC E b)) (k := o0) (As := [.int x1]) (rest := []) C hW hS (kdlt ho0 (by decide)) (ccX11 ho0) kcX11 (mX11_requireLeaf o0 x1 ho0 σ v2 h2) cwX11_requireLeaf cvX11_requireLeaf rfl mlX11_150 ⟨by decide, by decide⟩ rfl hl.1 (Nat.le_of_ble_eq_true rfl) ⟨by decide, by decide⟩ dX11_attach_2 rfl (fun n2 e2 H locs q ce hW hS hq hv hc => by rw [e2] at h; (try dsimp only at h); cases h; exact x_out C hT hW hS hq hv hc (by decide) (by decide)) (fun a2 e2 H locs hW hS => ?_)
  rw [e2] at h
  try dsimp only at h
  refine lv_iload_n hx0 hb dX11_attach_5 rfl (lv_at hl 2 rfl) ?_
  obtain ⟨v6, h6, h⟩ := bnd h
  try dsimp only at h
  refine x_callS (L := (LC E b)) (As := [.int x2]) (rest := []) C hW hS (mX11_requireSide x2  v2.2 v6 h6) cwX11_requireSide csX11_requireSide mlX11_180 ⟨by decide, by decide⟩ rfl hl.1 (Nat.le_of_ble_eq_true rfl) ⟨by decide, by decide⟩ dX11_attach_6 rfl (fun n6 e6 H locs q ce hW hS hq hv hc => by rw [e6] at h; (try dsimp only at h); cases h; exact x_out C hT hW hS hq hv hc (by decide) (by decide)) (fun a6 e6 H locs hW hS => ?_)
  rw [e6] at h
  try dsimp only at h
  refine lv_iload_n hx0 hb dX11_attach_9 rfl (lv_at hl 3 rfl) ?_
  obtain ⟨v10, h10, h⟩ := bnd h
  try dsimp only at h
  refine w_callS (L := (LC E b)) (As := [.int x3]) (rest := []) C hW hS (mX11_isSlipSize x3  v6.2 v10 h10) cwX11_isSlipSize csX11_isSlipSize mlX11_183 ⟨by decide, by decide⟩ rfl hl.1 (Nat.le_of_ble_eq_true rfl) ⟨by decide, by decide⟩ dX11_attach_10 rfl (fun H locs hW hS => ?_)
  refine lv_if_ne (tgt := 26) hx0 hb dX11_attach_13 (by decide) (fun c13 => ?_) (fun c13 => ?_)
  · rw [if_neg c13] at h
    refine lv_aload_n hx0 hb dX11_attach_26 rfl (lv_at hl 0 rfl) ?_
    refine gtX11_6 (k := o0) C hW ho0 flX11_48 dX11_attach_27 ?_
    refine lv_iload_n hx0 hb dX11_attach_30 rfl (lv_at hl 1 rfl) ?_
    obtain ⟨v31, h31, h⟩ := bnd h
    try dsimp only at h
    refine w_callV (L := (LC E b)) (k := o0 + 42) (As := [.int x1]) (rest := []) C hW hS (kdlt (chX11_6 ho0) (by decide)) (ccX10 (chX11_6 ho0)) kcX10 (mX10_isPresent (o0 + 42) x1 (chX11_6 ho0) v6.2 v31 h31) cwX10_isPresent cvX10_isPresent rfl mlX11_153 ⟨by decide, by decide⟩ rfl hl.1 (Nat.le_of_ble_eq_true rfl) ⟨by decide, by decide⟩ dX11_attach_31 rfl (fun H locs hW hS => ?_)
    refine lv_if_eq (tgt := 47) hx0 hb dX11_attach_34 (by decide) (fun c34 => ?_) (fun c34 => ?_)
    · rw [if_pos c34] at h
      cases h
      exact x_throw (n := 0) (si := 29) C hT (by decide +kernel) xat0 xgd0 xcl0 xin0 rfl hW hS hl.1 ⟨by decide, Nat.le_of_ble_eq_true rfl⟩ ⟨by decide, by decide⟩ (by decide) (by decide) dX11_attach_47 dX11_attach_50 dX11_attach_51 dX11_attach_53 dX11_attach_56
    · rw [if_neg c34] at h
      refine lv_aload_n hx0 hb dX11_attach_37 rfl (lv_at hl 0 rfl) ?_
      refine gtX11_6 (k := o0) C hW ho0 flX11_48 dX11_attach_38 ?_
      obtain ⟨v41, h41, h⟩ := bnd h
      try dsimp only at h
      refine w_callV (L := (LC E b)) (k := o0 + 42) (As := []) (rest := []) C hW hS (kdlt (chX11_6 ho0) (by decide)) (ccX10 (chX11_6 ho0)) kcX10 (mX10_takesSlip (o0 + 42) (chX11_6 ho0) v6.2 v41 h41) cwX10_takesSlip cvX10_takesSlip rfl mlX11_188 ⟨by decide, by decide⟩ rfl hl.1 (Nat.le_of_ble_eq_true rfl) ⟨by decide, by decide⟩ dX11_attach_41 rfl (fun H locs hW hS => ?_)
      refine lv_if_ne (tgt := 57) hx0 hb dX11_attach_44 (by decide) (fun c44 => ?_) (fun c44 => ?_)
      · rw [if_neg c44] at h
        refine lv_aload_n hx0 hb dX11_attach_57 rfl (lv_at hl 0 rfl) ?_
        refine gtX11_11 (k := o0) C hW ho0 flX11_73 dX11_attach_58 ?_
        refine lv_aload_n hx0 hb dX11_attach_61 rfl (lv_at hl 0 rfl) ?_
        refine gtX11_5 (k := o0) C hW ho0 flX11_40 dX11_attach_62 ?_
        obtain ⟨v65, h65, h⟩ := bnd h
        try dsimp only at h
        refine w_callV (L := (LC E b)) (k := o0 + 79) (As := [.ref (b + (o0 + 41))]) (rest := []) C hW hS (kdlt (chX11_11 ho0) (by decide)) (ccX0 (chX11_11 ho0)) kcX0 (mX0_keep (o0 + 79) (o0 + 41) (chX11_11 ho0) (chX11_5 ho0) v6.2 v65 h65) cwX0_keep cvX0_keep rfl mlX11_163 ⟨by decide, by decide⟩ rfl hl.1 (Nat.le_of_ble_eq_true rfl) ⟨by decide, by decide⟩ dX11_attach_65 rfl (fun H locs hW hS => ?_)
        refine lv_aload_n hx0 hb dX11_attach_68 rfl (lv_at hl 0 rfl) ?_
        refine gtX11_6 (k := o0) C hW ho0 flX11_48 dX11_attach_69 ?_
        refine lv_iload_n hx0 hb dX11_attach_72 rfl (lv_at hl 1 rfl) ?_
        refine lv_iload_n hx0 hb dX11_attach_73 rfl (lv_at hl 2 rfl) ?_
        refine lv_iload_n hx0 hb dX11_attach_74 rfl (lv_at hl 3 rfl) ?_
        obtain ⟨v75, h75, h⟩ := bnd h
        try dsimp only at h
        refine w_callV (L := (LC E b)) (k := o0 + 42) (As := [.int x1, .int x2, .int x3]) (rest := []) C hW hS (kdlt (chX11_6 ho0) (by decide)) (ccX10 (chX11_6 ho0)) kcX10 (mX10_addSlip (o0 + 42) x1 x2 x3 (chX11_6 ho0) v65 v75 h75) cwX10_addSlip cvX10_addSlip rfl mlX11_194 ⟨by decide, by decide⟩ rfl hl.1 (Nat.le_of_ble_eq_true rfl) ⟨by decide, by decide⟩ dX11_attach_75 rfl (fun H locs hW hS => ?_)
        refine lv_aload_n hx0 hb dX11_attach_78 rfl (lv_at hl 0 rfl) ?_
        refine gtX11_6 (k := o0) C hW ho0 flX11_48 dX11_attach_79 ?_
        obtain ⟨v82, h82, h⟩ := bnd h
        try dsimp only at h
        refine w_callV (L := (LC E b)) (k := o0 + 42) (As := []) (rest := []) C hW hS (kdlt (chX11_6 ho0) (by decide)) (ccX10 (chX11_6 ho0)) kcX10 (mX10_slipCount (o0 + 42) (chX11_6 ho0) v75 v82 h82) cwX10_slipCount cvX10_slipCount rfl mlX11_198 ⟨by decide, by decide⟩ rfl hl.1 (Nat.le_of_ble_eq_true rfl) ⟨by decide, by decide⟩ dX11_attach_82 rfl (fun H locs hW hS => ?_)
        refine lv_iconst (v := (1 : Int32)) hx0 hb dX11_attach_85 (by decide) ?_
        refine lv_isub hx0 hb dX11_attach_86 ?_
        cases h
        exact x_iret C hW hS (by decide) (by decide) dX11_attach_87
      · rw [if_pos c44] at h
        cases h
        exact x_throw (n := 0) (si := 29) C hT (by decide +kernel) xat0 xgd0 xcl0 xin0 rfl hW hS hl.1 ⟨by decide, Nat.le_of_ble_eq_true rfl⟩ ⟨by decide, by decide⟩ (by decide) (by decide) dX11_attach_47 dX11_attach_50 dX11_attach_51 dX11_attach_53 dX11_attach_56
  · rw [if_pos c13] at h
    cases h
    exact x_throw (n := 1) (si := 28) C hT (by decide +kernel) xat1 xgd1 xcl1 xin1 rfl hW hS hl.1 ⟨by decide, Nat.le_of_ble_eq_true rfl⟩ ⟨by decide, by decide⟩ (by decide) (by decide) dX11_attach_16 dX11_attach_19 dX11_attach_20 dX11_attach_22 dX11_attach_25
def fX11_requireSlip (o0 : Nat) (x1 : Int32) (σ : Mem) : Option Rx :=
  if x1 < 0 then (some (.inl 2, σ)) else ((fX10_slipCount (o0 + 42) σ).bind fun v9 => if x1 < v9 then (some (.inr 0, σ)) else (some (.inl 2, σ)))
set_option maxRecDepth 100000 in
set_option maxHeartbeats 4000000 in
theorem mX11_requireSlip {l : Launch} {E : Ev} {b : Nat} (o0 : Nat) (x1 : Int32) (ho0 : kd o0 = 11) (σ : Mem) (r : Rx) (h : fX11_requireSlip o0 x1 σ = some r) : vx_Met l yX11_requireSlip (tw yX11_requireSlip cX11_requireSlip 2 none) { frames := 6, cells := 1, slots := 6, locals := 90 } (va_Pc [.ref (b + o0), .int x1] (Pr l E (LC E b) σ)) (Qx E (LC E b) rvV r) (Xx E (LC E b) r) 1 6 (La (LC E b)) := by
  refine cx_of (by decide) (Nat.le_of_ble_eq_true rfl) ?_
  intro p e s m below meth c C hT hW hS ls hl
  have hx0 := C.1
  have hb := C.2.1
  have hl : lv_has ls 2 [(0, .ref (b + o0)), (1, .int x1)] := hl
  unfold fX11_requireSlip at h
  refine lv_iload_n hx0 hb dX11_requireSlip_0 rfl (lv_at hl 1 rfl) ?_
  refine lv_if_lt (tgt := 15) hx0 hb dX11_requireSlip_1 (by decide) (fun c1 => ?_) (fun c1 => ?_)
  · rw [if_pos c1] at h
    cases h
    exact x_throwW (n := 2) (si := 30) C hT (by decide +kernel) xat2 xgd2 xcl2 xin2 rfl hW hS hl.1 ⟨by decide, Nat.le_of_ble_eq_true rfl⟩ ⟨by decide, by decide⟩ (by decide) (by decide) dX11_requireSlip_15 dX11_requireSlip_18 dX11_requireSlip_19 dX11_requireSlip_22 dX11_requireSlip_25
  · rw [if_neg c1] at h
    refine lv_iload_n hx0 hb dX11_requireSlip_4 rfl (lv_at hl 1 rfl) ?_
    refine lv_aload_n hx0 hb dX11_requireSlip_5 rfl (lv_at hl 0 rfl) ?_
    refine gtX11_6 (k := o0) C hW ho0 flX11_48 dX11_requireSlip_6 ?_
    obtain ⟨v9, h9, h⟩ := bnd h
    try dsimp only at h
    refine w_callV (L := (LC E b)) (k := o0 + 42) (As := []) (rest := [.int x1]) C hW hS (kdlt (chX11_6 ho0) (by decide)) (ccX10 (chX11_6 ho0)) kcX10 (mX10_slipCount (o0 + 42) (chX11_6 ho0) σ v9 h9) cwX10_slipCount cvX10_slipCount rfl mlX11_198 ⟨by decide, by decide⟩ rfl hl.1 (Nat.le_of_ble_eq_true rfl) ⟨by decide, by decide⟩ dX11_requireSlip_9 rfl (fun H locs hW hS => ?_)
    refine lv_icmp_lt (tgt := 26) hx0 hb dX11_requireSlip_12 (by decide) (fun c12 => ?_) (fun c12 => ?_)
    · rw [if_pos c12] at h
      cases h
      exact x_vret C hW hS (by decide) (by decide) dX11_requireSlip_26
    · rw [if_neg c12] at h
      cases h
      exact x_throwW (n := 2) (si := 30) C hT (by decide +kernel) xat2 xgd2 xcl2 xin2 rfl hW hS hl.1 ⟨by decide, Nat.le_of_ble_eq_true rfl⟩ ⟨by decide, by decide⟩ (by decide) (by decide) dX11_requireSlip_15 dX11_requireSlip_18 dX11_requireSlip_19 dX11_requireSlip_22 dX11_requireSlip_25
def fX11_requireAttached (o0 : Nat) (x1 : Int32) (σ : Mem) : Option Rx :=
  (fX10_leafOfSlip (o0 + 42) x1 σ).bind fun v5 => if v5 = (-1 : Int32) then (some (.inl 0, σ)) else (some (.inr 0, σ))
set_option maxRecDepth 100000 in
set_option maxHeartbeats 4000000 in
theorem mX11_requireAttached {l : Launch} {E : Ev} {b : Nat} (o0 : Nat) (x1 : Int32) (ho0 : kd o0 = 11) (σ : Mem) (r : Rx) (h : fX11_requireAttached o0 x1 σ = some r) : vx_Met l yX11_requireAttached (tw yX11_requireAttached cX11_requireAttached 2 none) { frames := 6, cells := 1, slots := 6, locals := 90 } (va_Pc [.ref (b + o0), .int x1] (Pr l E (LC E b) σ)) (Qx E (LC E b) rvV r) (Xx E (LC E b) r) 1 6 (La (LC E b)) := by
  refine cx_of (by decide) (Nat.le_of_ble_eq_true rfl) ?_
  intro p e s m below meth c C hT hW hS ls hl
  have hx0 := C.1
  have hb := C.2.1
  have hl : lv_has ls 2 [(0, .ref (b + o0)), (1, .int x1)] := hl
  unfold fX11_requireAttached at h
  refine lv_aload_n hx0 hb dX11_requireAttached_0 rfl (lv_at hl 0 rfl) ?_
  refine gtX11_6 (k := o0) C hW ho0 flX11_48 dX11_requireAttached_1 ?_
  refine lv_iload_n hx0 hb dX11_requireAttached_4 rfl (lv_at hl 1 rfl) ?_
  obtain ⟨v5, h5, h⟩ := bnd h
  try dsimp only at h
  refine w_callV (L := (LC E b)) (k := o0 + 42) (As := [.int x1]) (rest := []) C hW hS (kdlt (chX11_6 ho0) (by decide)) (ccX10 (chX11_6 ho0)) kcX10 (mX10_leafOfSlip (o0 + 42) x1 (chX11_6 ho0) σ v5 h5) cwX10_leafOfSlip cvX10_leafOfSlip rfl mlX11_342 ⟨by decide, by decide⟩ rfl hl.1 (Nat.le_of_ble_eq_true rfl) ⟨by decide, by decide⟩ dX11_requireAttached_5 rfl (fun H locs hW hS => ?_)
  refine lv_iconst (v := (-1 : Int32)) hx0 hb dX11_requireAttached_8 (by decide) ?_
  refine lv_icmp_ne (tgt := 23) hx0 hb dX11_requireAttached_9 (by decide) (fun c9 => ?_) (fun c9 => ?_)
  · rw [if_neg c9] at h
    cases h
    exact x_vret C hW hS (by decide) (by decide) dX11_requireAttached_23
  · rw [if_pos c9] at h
    cases h
    exact x_throwW (n := 0) (si := 31) C hT (by decide +kernel) xat0 xgd0 xcl0 xin0 rfl hW hS hl.1 ⟨by decide, Nat.le_of_ble_eq_true rfl⟩ ⟨by decide, by decide⟩ (by decide) (by decide) dX11_requireAttached_12 dX11_requireAttached_15 dX11_requireAttached_16 dX11_requireAttached_19 dX11_requireAttached_22
def fX11_detach (o0 : Nat) (x1 : Int32) (σ : Mem) : Option Rx :=
  (fX11_requireSlip o0 x1 σ).bind fun v2 => match v2.1 with | .inl n2 => some (.inl n2, v2.2) | .inr a2 => (fX11_requireAttached o0 x1 v2.2).bind fun v7 => match v7.1 with | .inl n7 => some (.inl n7, v7.2) | .inr a7 => (fX0_keep (o0 + 79) (o0 + 41) v7.2).bind fun v18 => (fX10_loosen (o0 + 42) x1 v18).bind fun v26 => (fX10_attachedCount (o0 + 42) v26).bind fun v33 => some (.inr v33, v26)
set_option maxRecDepth 100000 in
set_option maxHeartbeats 4000000 in
theorem mX11_detach {l : Launch} {E : Ev} {b : Nat} (o0 : Nat) (x1 : Int32) (ho0 : kd o0 = 11) (σ : Mem) (r : Rx) (h : fX11_detach o0 x1 σ = some r) : vx_Met l yX11_detach (tw yX11_detach cX11_detach 2 (some .int)) { frames := 7, cells := 2, slots := 12, locals := 126 } (va_Pc [.ref (b + o0), .int x1] (Pr l E (LC E b) σ)) (Qx E (LC E b) rvI r) (Xx E (LC E b) r) 2 12 (La (LC E b)) := by
  refine cx_of (by decide) (Nat.le_of_ble_eq_true rfl) ?_
  intro p e s m below meth c C hT hW hS ls hl
  have hx0 := C.1
  have hb := C.2.1
  have hl : lv_has ls 2 [(0, .ref (b + o0)), (1, .int x1)] := hl
  unfold fX11_detach at h
  refine lv_aload_n hx0 hb dX11_detach_0 rfl (lv_at hl 0 rfl) ?_
  refine lv_iload_n hx0 hb dX11_detach_1 rfl (lv_at hl 1 rfl) ?_
  obtain ⟨v2, h2, h⟩ := bnd h
  try dsimp only at h
  refine x_callV (L := (LC E b)) (k := o0) (As := [.int x1]) (rest := []) C hW hS (kdlt ho0 (by decide)) (ccX11 ho0) kcX11 (mX11_requireSlip o0 x1 ho0 σ v2 h2) cwX11_requireSlip cvX11_requireSlip rfl mlX11_201 ⟨by decide, by decide⟩ rfl hl.1 (Nat.le_of_ble_eq_true rfl) ⟨by decide, by decide⟩ dX11_detach_2 rfl (fun n2 e2 H locs q ce hW hS hq hv hc => by rw [e2] at h; (try dsimp only at h); cases h; exact x_out C hT hW hS hq hv hc (by decide) (by decide)) (fun a2 e2 H locs hW hS => ?_)
  rw [e2] at h
  try dsimp only at h
  refine lv_aload_n hx0 hb dX11_detach_5 rfl (lv_at hl 0 rfl) ?_
  refine lv_iload_n hx0 hb dX11_detach_6 rfl (lv_at hl 1 rfl) ?_
  obtain ⟨v7, h7, h⟩ := bnd h
  try dsimp only at h
  refine x_callV (L := (LC E b)) (k := o0) (As := [.int x1]) (rest := []) C hW hS (kdlt ho0 (by decide)) (ccX11 ho0) kcX11 (mX11_requireAttached o0 x1 ho0 v2.2 v7 h7) cwX11_requireAttached cvX11_requireAttached rfl mlX11_204 ⟨by decide, by decide⟩ rfl hl.1 (Nat.le_of_ble_eq_true rfl) ⟨by decide, by decide⟩ dX11_detach_7 rfl (fun n7 e7 H locs q ce hW hS hq hv hc => by rw [e7] at h; (try dsimp only at h); cases h; exact x_out C hT hW hS hq hv hc (by decide) (by decide)) (fun a7 e7 H locs hW hS => ?_)
  rw [e7] at h
  try dsimp only at h
  refine lv_aload_n hx0 hb dX11_detach_10 rfl (lv_at hl 0 rfl) ?_
  refine gtX11_11 (k := o0) C hW ho0 flX11_73 dX11_detach_11 ?_
  refine lv_aload_n hx0 hb dX11_detach_14 rfl (lv_at hl 0 rfl) ?_
  refine gtX11_5 (k := o0) C hW ho0 flX11_40 dX11_detach_15 ?_
  obtain ⟨v18, h18, h⟩ := bnd h
  try dsimp only at h
  refine w_callV (L := (LC E b)) (k := o0 + 79) (As := [.ref (b + (o0 + 41))]) (rest := []) C hW hS (kdlt (chX11_11 ho0) (by decide)) (ccX0 (chX11_11 ho0)) kcX0 (mX0_keep (o0 + 79) (o0 + 41) (chX11_11 ho0) (chX11_5 ho0) v7.2 v18 h18) cwX0_keep cvX0_keep rfl mlX11_163 ⟨by decide, by decide⟩ rfl hl.1 (Nat.le_of_ble_eq_true rfl) ⟨by decide, by decide⟩ dX11_detach_18 rfl (fun H locs hW hS => ?_)
  refine lv_aload_n hx0 hb dX11_detach_21 rfl (lv_at hl 0 rfl) ?_
  refine gtX11_6 (k := o0) C hW ho0 flX11_48 dX11_detach_22 ?_
  refine lv_iload_n hx0 hb dX11_detach_25 rfl (lv_at hl 1 rfl) ?_
  obtain ⟨v26, h26, h⟩ := bnd h
  try dsimp only at h
  refine w_callV (L := (LC E b)) (k := o0 + 42) (As := [.int x1]) (rest := []) C hW hS (kdlt (chX11_6 ho0) (by decide)) (ccX10 (chX11_6 ho0)) kcX10 (mX10_loosen (o0 + 42) x1 (chX11_6 ho0) v18 v26 h26) cwX10_loosen cvX10_loosen rfl mlX11_207 ⟨by decide, by decide⟩ rfl hl.1 (Nat.le_of_ble_eq_true rfl) ⟨by decide, by decide⟩ dX11_detach_26 rfl (fun H locs hW hS => ?_)
  refine lv_aload_n hx0 hb dX11_detach_29 rfl (lv_at hl 0 rfl) ?_
  refine gtX11_6 (k := o0) C hW ho0 flX11_48 dX11_detach_30 ?_
  obtain ⟨v33, h33, h⟩ := bnd h
  try dsimp only at h
  refine w_callV (L := (LC E b)) (k := o0 + 42) (As := []) (rest := []) C hW hS (kdlt (chX11_6 ho0) (by decide)) (ccX10 (chX11_6 ho0)) kcX10 (mX10_attachedCount (o0 + 42) (chX11_6 ho0) v26 v33 h33) cwX10_attachedCount cvX10_attachedCount rfl mlX11_210 ⟨by decide, by decide⟩ rfl hl.1 (Nat.le_of_ble_eq_true rfl) ⟨by decide, by decide⟩ dX11_detach_33 rfl (fun H locs hW hS => ?_)
  cases h
  exact x_iret C hW hS (by decide) (by decide) dX11_detach_36
def fX11_label (o0 : Nat) (x1 : Int32) (x2 : Int32) (x3 : Int32) (x4 : Int32) (σ : Mem) : Option Rx :=
  (fX11_requireLeaf o0 x1 σ).bind fun v2 => match v2.1 with | .inl n2 => some (.inl n2, v2.2) | .inr a2 => (fX11_requireLeaf o0 x2 v2.2).bind fun v7 => match v7.1 with | .inl n7 => some (.inl n7, v7.2) | .inr a7 => if x2 < x1 then (some (.inl 1, v7.2)) else (if x3 < 0 then (some (.inl 1, v7.2)) else (if (3 : Int32) < x3 then (some (.inl 1, v7.2)) else ((fX11_isStart x4 v7.2).bind fun v26 => if v26 = 0 then (some (.inl 1, v7.2)) else ((fX1_takesRange (o0 + 53) v7.2).bind fun v46 => if v46 = 0 then (some (.inl 0, v7.2)) else ((fX0_keep (o0 + 79) (o0 + 41) v7.2).bind fun v70 => (fX1_add (o0 + 53) x1 x2 x3 x4 v70).bind fun v82 => (fX1_size (o0 + 53) v82).bind fun v89 => some (.inr v89, v82))))))
set_option maxRecDepth 100000 in
set_option maxHeartbeats 4000000 in
theorem mX11_label {l : Launch} {E : Ev} {b : Nat} (o0 : Nat) (x1 : Int32) (x2 : Int32) (x3 : Int32) (x4 : Int32) (ho0 : kd o0 = 11) (σ : Mem) (r : Rx) (h : fX11_label o0 x1 x2 x3 x4 σ = some r) : vx_Met l yX11_label (tw yX11_label cX11_label 5 (some .int)) { frames := 7, cells := 3, slots := 18, locals := 126 } (va_Pc [.ref (b + o0), .int x1, .int x2, .int x3, .int x4] (Pr l E (LC E b) σ)) (Qx E (LC E b) rvI r) (Xx E (LC E b) r) 3 18 (La (LC E b)) := by
  refine cx_of (by decide) (Nat.le_of_ble_eq_true rfl) ?_
  intro p e s m below meth c C hT hW hS ls hl
  have hx0 := C.1
  have hb := C.2.1
  have hl : lv_has ls 5 [(0, .ref (b + o0)), (1, .int x1), (2, .int x2), (3, .int x3), (4, .int x4)] := hl
  unfold fX11_label at h
  refine lv_aload_n hx0 hb dX11_label_0 rfl (lv_at hl 0 rfl) ?_
  refine lv_iload_n hx0 hb dX11_label_1 rfl (lv_at hl 1 rfl) ?_
  obtain ⟨v2, h2, h⟩ := bnd h
  try dsimp only at h
  refine x_callV (L := (LC E b)) (k := o0) (As := [.int x1]) (rest := []) C hW hS (kdlt ho0 (by decide)) (ccX11 ho0) kcX11 (mX11_requireLeaf o0 x1 ho0 σ v2 h2) cwX11_requireLeaf cvX11_requireLeaf rfl mlX11_150 ⟨by decide, by decide⟩ rfl hl.1 (Nat.le_of_ble_eq_true rfl) ⟨by decide, by decide⟩ dX11_label_2 rfl (fun n2 e2 H locs q ce hW hS hq hv hc => by rw [e2] at h; (try dsimp only at h); cases h; exact x_out C hT hW hS hq hv hc (by decide) (by decide)) (fun a2 e2 H locs hW hS => ?_)
  rw [e2] at h
  try dsimp only at h
  refine lv_aload_n hx0 hb dX11_label_5 rfl (lv_at hl 0 rfl) ?_
  refine lv_iload_n hx0 hb dX11_label_6 rfl (lv_at hl 2 rfl) ?_
  obtain ⟨v7, h7, h⟩ := bnd h
  try dsimp only at h
  refine x_callV (L := (LC E b)) (k := o0) (As := [.int x2]) (rest := []) C hW hS (kdlt ho0 (by decide)) (ccX11 ho0) kcX11 (mX11_requireLeaf o0 x2 ho0 v2.2 v7 h7) cwX11_requireLeaf cvX11_requireLeaf rfl mlX11_150 ⟨by decide, by decide⟩ rfl hl.1 (Nat.le_of_ble_eq_true rfl) ⟨by decide, by decide⟩ dX11_label_7 rfl (fun n7 e7 H locs q ce hW hS hq hv hc => by rw [e7] at h; (try dsimp only at h); cases h; exact x_out C hT hW hS hq hv hc (by decide) (by decide)) (fun a7 e7 H locs hW hS => ?_)
  rw [e7] at h
  try dsimp only at h
  refine lv_iload_n hx0 hb dX11_label_10 rfl (lv_at hl 2 rfl) ?_
  refine lv_iload_n hx0 hb dX11_label_11 rfl (lv_at hl 1 rfl) ?_
  refine lv_icmp_lt (tgt := 32) hx0 hb dX11_label_12 (by decide) (fun c12 => ?_) (fun c12 => ?_)
  · rw [if_pos c12] at h
    cases h
    exact x_throw (n := 1) (si := 32) C hT (by decide +kernel) xat1 xgd1 xcl1 xin1 rfl hW hS hl.1 ⟨by decide, Nat.le_of_ble_eq_true rfl⟩ ⟨by decide, by decide⟩ (by decide) (by decide) dX11_label_32 dX11_label_35 dX11_label_36 dX11_label_38 dX11_label_41
  · rw [if_neg c12] at h
    refine lv_iload_n hx0 hb dX11_label_15 rfl (lv_at hl 3 rfl) ?_
    refine lv_if_lt (tgt := 32) hx0 hb dX11_label_16 (by decide) (fun c16 => ?_) (fun c16 => ?_)
    · rw [if_pos c16] at h
      cases h
      exact x_throw (n := 1) (si := 32) C hT (by decide +kernel) xat1 xgd1 xcl1 xin1 rfl hW hS hl.1 ⟨by decide, Nat.le_of_ble_eq_true rfl⟩ ⟨by decide, by decide⟩ (by decide) (by decide) dX11_label_32 dX11_label_35 dX11_label_36 dX11_label_38 dX11_label_41
    · rw [if_neg c16] at h
      refine lv_iload_n hx0 hb dX11_label_19 rfl (lv_at hl 3 rfl) ?_
      refine lv_iconst (v := (3 : Int32)) hx0 hb dX11_label_20 (by decide) ?_
      refine lv_icmp_gt (tgt := 32) hx0 hb dX11_label_21 (by decide) (fun c21 => ?_) (fun c21 => ?_)
      · rw [if_pos c21] at h
        cases h
        exact x_throw (n := 1) (si := 32) C hT (by decide +kernel) xat1 xgd1 xcl1 xin1 rfl hW hS hl.1 ⟨by decide, Nat.le_of_ble_eq_true rfl⟩ ⟨by decide, by decide⟩ (by decide) (by decide) dX11_label_32 dX11_label_35 dX11_label_36 dX11_label_38 dX11_label_41
      · rw [if_neg c21] at h
        refine lv_iload hx0 hb dX11_label_24 (lv_at hl 4 rfl) ?_
        obtain ⟨v26, h26, h⟩ := bnd h
        try dsimp only at h
        refine w_callS (L := (LC E b)) (As := [.int x4]) (rest := []) C hW hS (mX11_isStart x4  v7.2 v26 h26) cwX11_isStart csX11_isStart mlX11_213 ⟨by decide, by decide⟩ rfl hl.1 (Nat.le_of_ble_eq_true rfl) ⟨by decide, by decide⟩ dX11_label_26 rfl (fun H locs hW hS => ?_)
        refine lv_if_ne (tgt := 42) hx0 hb dX11_label_29 (by decide) (fun c29 => ?_) (fun c29 => ?_)
        · rw [if_neg c29] at h
          refine lv_aload_n hx0 hb dX11_label_42 rfl (lv_at hl 0 rfl) ?_
          refine gtX11_7 (k := o0) C hW ho0 flX11_53 dX11_label_43 ?_
          obtain ⟨v46, h46, h⟩ := bnd h
          try dsimp only at h
          refine w_callV (L := (LC E b)) (k := o0 + 53) (As := []) (rest := []) C hW hS (kdlt (chX11_7 ho0) (by decide)) (ccX1 (chX11_7 ho0)) kcX1 (mX1_takesRange (o0 + 53) (chX11_7 ho0) v7.2 v46 h46) cwX1_takesRange cvX1_takesRange rfl mlX11_218 ⟨by decide, by decide⟩ rfl hl.1 (Nat.le_of_ble_eq_true rfl) ⟨by decide, by decide⟩ dX11_label_46 rfl (fun H locs hW hS => ?_)
          refine lv_if_ne (tgt := 62) hx0 hb dX11_label_49 (by decide) (fun c49 => ?_) (fun c49 => ?_)
          · rw [if_neg c49] at h
            refine lv_aload_n hx0 hb dX11_label_62 rfl (lv_at hl 0 rfl) ?_
            refine gtX11_11 (k := o0) C hW ho0 flX11_73 dX11_label_63 ?_
            refine lv_aload_n hx0 hb dX11_label_66 rfl (lv_at hl 0 rfl) ?_
            refine gtX11_5 (k := o0) C hW ho0 flX11_40 dX11_label_67 ?_
            obtain ⟨v70, h70, h⟩ := bnd h
            try dsimp only at h
            refine w_callV (L := (LC E b)) (k := o0 + 79) (As := [.ref (b + (o0 + 41))]) (rest := []) C hW hS (kdlt (chX11_11 ho0) (by decide)) (ccX0 (chX11_11 ho0)) kcX0 (mX0_keep (o0 + 79) (o0 + 41) (chX11_11 ho0) (chX11_5 ho0) v7.2 v70 h70) cwX0_keep cvX0_keep rfl mlX11_163 ⟨by decide, by decide⟩ rfl hl.1 (Nat.le_of_ble_eq_true rfl) ⟨by decide, by decide⟩ dX11_label_70 rfl (fun H locs hW hS => ?_)
            refine lv_aload_n hx0 hb dX11_label_73 rfl (lv_at hl 0 rfl) ?_
            refine gtX11_7 (k := o0) C hW ho0 flX11_53 dX11_label_74 ?_
            refine lv_iload_n hx0 hb dX11_label_77 rfl (lv_at hl 1 rfl) ?_
            refine lv_iload_n hx0 hb dX11_label_78 rfl (lv_at hl 2 rfl) ?_
            refine lv_iload_n hx0 hb dX11_label_79 rfl (lv_at hl 3 rfl) ?_
            refine lv_iload hx0 hb dX11_label_80 (lv_at hl 4 rfl) ?_
            obtain ⟨v82, h82, h⟩ := bnd h
            try dsimp only at h
            refine w_callV (L := (LC E b)) (k := o0 + 53) (As := [.int x1, .int x2, .int x3, .int x4]) (rest := []) C hW hS (kdlt (chX11_7 ho0) (by decide)) (ccX1 (chX11_7 ho0)) kcX1 (mX1_add (o0 + 53) x1 x2 x3 x4 (chX11_7 ho0) v70 v82 h82) cwX1_add cvX1_add rfl mlX11_225 ⟨by decide, by decide⟩ rfl hl.1 (Nat.le_of_ble_eq_true rfl) ⟨by decide, by decide⟩ dX11_label_82 rfl (fun H locs hW hS => ?_)
            refine lv_aload_n hx0 hb dX11_label_85 rfl (lv_at hl 0 rfl) ?_
            refine gtX11_7 (k := o0) C hW ho0 flX11_53 dX11_label_86 ?_
            obtain ⟨v89, h89, h⟩ := bnd h
            try dsimp only at h
            refine w_callV (L := (LC E b)) (k := o0 + 53) (As := []) (rest := []) C hW hS (kdlt (chX11_7 ho0) (by decide)) (ccX1 (chX11_7 ho0)) kcX1 (mX1_size (o0 + 53) (chX11_7 ho0) v82 v89 h89) cwX1_size cvX1_size rfl mlX11_228 ⟨by decide, by decide⟩ rfl hl.1 (Nat.le_of_ble_eq_true rfl) ⟨by decide, by decide⟩ dX11_label_89 rfl (fun H locs hW hS => ?_)
            cases h
            exact x_iret C hW hS (by decide) (by decide) dX11_label_92
          · rw [if_pos c49] at h
            cases h
            exact x_throw (n := 0) (si := 33) C hT (by decide +kernel) xat0 xgd0 xcl0 xin0 rfl hW hS hl.1 ⟨by decide, Nat.le_of_ble_eq_true rfl⟩ ⟨by decide, by decide⟩ (by decide) (by decide) dX11_label_52 dX11_label_55 dX11_label_56 dX11_label_58 dX11_label_61
        · rw [if_pos c29] at h
          cases h
          exact x_throw (n := 1) (si := 32) C hT (by decide +kernel) xat1 xgd1 xcl1 xin1 rfl hW hS hl.1 ⟨by decide, Nat.le_of_ble_eq_true rfl⟩ ⟨by decide, by decide⟩ (by decide) (by decide) dX11_label_32 dX11_label_35 dX11_label_36 dX11_label_38 dX11_label_41
def fX11_addScan (o0 : Nat) (x1 : Int32) (x2 : Int32) (x3 : Int32) (σ : Mem) : Option Rx :=
  (fX5_takesScan (o0 + 62) σ).bind fun v4 => if v4 = 0 then (some (.inl 0, σ)) else ((fX0_keep (o0 + 79) (o0 + 41) σ).bind fun v29 => (fX5_add (o0 + 62) x1 x2 x3 v29).bind fun v39 => (fX5_size (o0 + 62) v39).bind fun v46 => some (.inr (v46 - (1 : Int32)), v39))
set_option maxRecDepth 100000 in
set_option maxHeartbeats 4000000 in
theorem mX11_addScan {l : Launch} {E : Ev} {b : Nat} (o0 : Nat) (x1 : Int32) (x2 : Int32) (x3 : Int32) (ho0 : kd o0 = 11) (σ : Mem) (r : Rx) (h : fX11_addScan o0 x1 x2 x3 σ = some r) : vx_Met l yX11_addScan (tw yX11_addScan cX11_addScan 4 (some .int)) { frames := 6, cells := 1, slots := 6, locals := 126 } (va_Pc [.ref (b + o0), .int x1, .int x2, .int x3] (Pr l E (LC E b) σ)) (Qx E (LC E b) rvI r) (Xx E (LC E b) r) 1 6 (La (LC E b)) := by
  refine cx_of (by decide) (Nat.le_of_ble_eq_true rfl) ?_
  intro p e s m below meth c C hT hW hS ls hl
  have hx0 := C.1
  have hb := C.2.1
  have hl : lv_has ls 4 [(0, .ref (b + o0)), (1, .int x1), (2, .int x2), (3, .int x3)] := hl
  unfold fX11_addScan at h
  refine lv_aload_n hx0 hb dX11_addScan_0 rfl (lv_at hl 0 rfl) ?_
  refine gtX11_8 (k := o0) C hW ho0 flX11_58 dX11_addScan_1 ?_
  obtain ⟨v4, h4, h⟩ := bnd h
  try dsimp only at h
  refine w_callV (L := (LC E b)) (k := o0 + 62) (As := []) (rest := []) C hW hS (kdlt (chX11_8 ho0) (by decide)) (ccX5 (chX11_8 ho0)) kcX5 (mX5_takesScan (o0 + 62) (chX11_8 ho0) σ v4 h4) cwX5_takesScan cvX5_takesScan rfl mlX11_254 ⟨by decide, by decide⟩ rfl hl.1 (Nat.le_of_ble_eq_true rfl) ⟨by decide, by decide⟩ dX11_addScan_4 rfl (fun H locs hW hS => ?_)
  refine lv_if_ne (tgt := 21) hx0 hb dX11_addScan_7 (by decide) (fun c7 => ?_) (fun c7 => ?_)
  · rw [if_neg c7] at h
    refine lv_aload_n hx0 hb dX11_addScan_21 rfl (lv_at hl 0 rfl) ?_
    refine gtX11_11 (k := o0) C hW ho0 flX11_73 dX11_addScan_22 ?_
    refine lv_aload_n hx0 hb dX11_addScan_25 rfl (lv_at hl 0 rfl) ?_
    refine gtX11_5 (k := o0) C hW ho0 flX11_40 dX11_addScan_26 ?_
    obtain ⟨v29, h29, h⟩ := bnd h
    try dsimp only at h
    refine w_callV (L := (LC E b)) (k := o0 + 79) (As := [.ref (b + (o0 + 41))]) (rest := []) C hW hS (kdlt (chX11_11 ho0) (by decide)) (ccX0 (chX11_11 ho0)) kcX0 (mX0_keep (o0 + 79) (o0 + 41) (chX11_11 ho0) (chX11_5 ho0) σ v29 h29) cwX0_keep cvX0_keep rfl mlX11_163 ⟨by decide, by decide⟩ rfl hl.1 (Nat.le_of_ble_eq_true rfl) ⟨by decide, by decide⟩ dX11_addScan_29 rfl (fun H locs hW hS => ?_)
    refine lv_aload_n hx0 hb dX11_addScan_32 rfl (lv_at hl 0 rfl) ?_
    refine gtX11_8 (k := o0) C hW ho0 flX11_58 dX11_addScan_33 ?_
    refine lv_iload_n hx0 hb dX11_addScan_36 rfl (lv_at hl 1 rfl) ?_
    refine lv_iload_n hx0 hb dX11_addScan_37 rfl (lv_at hl 2 rfl) ?_
    refine lv_iload_n hx0 hb dX11_addScan_38 rfl (lv_at hl 3 rfl) ?_
    obtain ⟨v39, h39, h⟩ := bnd h
    try dsimp only at h
    refine w_callV (L := (LC E b)) (k := o0 + 62) (As := [.int x1, .int x2, .int x3]) (rest := []) C hW hS (kdlt (chX11_8 ho0) (by decide)) (ccX5 (chX11_8 ho0)) kcX5 (mX5_add (o0 + 62) x1 x2 x3 (chX11_8 ho0) v29 v39 h39) cwX5_add cvX5_add rfl mlX11_259 ⟨by decide, by decide⟩ rfl hl.1 (Nat.le_of_ble_eq_true rfl) ⟨by decide, by decide⟩ dX11_addScan_39 rfl (fun H locs hW hS => ?_)
    refine lv_aload_n hx0 hb dX11_addScan_42 rfl (lv_at hl 0 rfl) ?_
    refine gtX11_8 (k := o0) C hW ho0 flX11_58 dX11_addScan_43 ?_
    obtain ⟨v46, h46, h⟩ := bnd h
    try dsimp only at h
    refine w_callV (L := (LC E b)) (k := o0 + 62) (As := []) (rest := []) C hW hS (kdlt (chX11_8 ho0) (by decide)) (ccX5 (chX11_8 ho0)) kcX5 (mX5_size (o0 + 62) (chX11_8 ho0) v39 v46 h46) cwX5_size cvX5_size rfl mlX11_261 ⟨by decide, by decide⟩ rfl hl.1 (Nat.le_of_ble_eq_true rfl) ⟨by decide, by decide⟩ dX11_addScan_46 rfl (fun H locs hW hS => ?_)
    refine lv_iconst (v := (1 : Int32)) hx0 hb dX11_addScan_49 (by decide) ?_
    refine lv_isub hx0 hb dX11_addScan_50 ?_
    cases h
    exact x_iret C hW hS (by decide) (by decide) dX11_addScan_51
  · rw [if_pos c7] at h
    cases h
    exact x_throwW (n := 0) (si := 35) C hT (by decide +kernel) xat0 xgd0 xcl0 xin0 rfl hW hS hl.1 ⟨by decide, Nat.le_of_ble_eq_true rfl⟩ ⟨by decide, by decide⟩ (by decide) (by decide) dX11_addScan_10 dX11_addScan_13 dX11_addScan_14 dX11_addScan_17 dX11_addScan_20
def fX11_scanLeaf (o0 : Nat) (x1 : Int32) (x2 : Int32) (σ : Mem) : Option Rx :=
  (fX11_requireLeaf o0 x1 σ).bind fun v2 => match v2.1 with | .inl n2 => some (.inl n2, v2.2) | .inr a2 => (fX11_requireSide x2 v2.2).bind fun v6 => match v6.1 with | .inl n6 => some (.inl n6, v6.2) | .inr a6 => (fX10_isPresent (o0 + 42) x1 v6.2).bind fun v14 => if v14 = 0 then (some (.inl 0, v6.2)) else ((fX11_addScan o0 (0 : Int32) x1 x2 v6.2).bind fun v34 => match v34.1 with | .inl n34 => some (.inl n34, v34.2) | .inr a34 => some (.inr a34, v34.2))
set_option maxRecDepth 100000 in
set_option maxHeartbeats 4000000 in
theorem mX11_scanLeaf {l : Launch} {E : Ev} {b : Nat} (o0 : Nat) (x1 : Int32) (x2 : Int32) (ho0 : kd o0 = 11) (σ : Mem) (r : Rx) (h : fX11_scanLeaf o0 x1 x2 σ = some r) : vx_Met l yX11_scanLeaf (tw yX11_scanLeaf cX11_scanLeaf 3 (some .int)) { frames := 7, cells := 4, slots := 24, locals := 149 } (va_Pc [.ref (b + o0), .int x1, .int x2] (Pr l E (LC E b) σ)) (Qx E (LC E b) rvI r) (Xx E (LC E b) r) 4 24 (La (LC E b)) := by
  refine cx_of (by decide) (Nat.le_of_ble_eq_true rfl) ?_
  intro p e s m below meth c C hT hW hS ls hl
  have hx0 := C.1
  have hb := C.2.1
  have hl : lv_has ls 3 [(0, .ref (b + o0)), (1, .int x1), (2, .int x2)] := hl
  unfold fX11_scanLeaf at h
  refine lv_aload_n hx0 hb dX11_scanLeaf_0 rfl (lv_at hl 0 rfl) ?_
  refine lv_iload_n hx0 hb dX11_scanLeaf_1 rfl (lv_at hl 1 rfl) ?_
  obtain ⟨v2, h2, h⟩ := bnd h
  try dsimp only at h
  refine x_callV (L := (LC E b)) (k := o0) (As := [.int x1]) (rest := []) C hW hS (kdlt ho0 (by decide)) (ccX11 ho0) kcX11 (mX11_requireLeaf o0 x1 ho0 σ v2 h2) cwX11_requireLeaf cvX11_requireLeaf rfl mlX11_150 ⟨by decide, by decide⟩ rfl hl.1 (Nat.le_of_ble_eq_true rfl) ⟨by decide, by decide⟩ dX11_scanLeaf_2 rfl (fun n2 e2 H locs q ce hW hS hq hv hc => by rw [e2] at h; (try dsimp only at h); cases h; exact x_out C hT hW hS hq hv hc (by decide) (by decide)) (fun a2 e2 H locs hW hS => ?_)
  rw [e2] at h
  try dsimp only at h
  refine lv_iload_n hx0 hb dX11_scanLeaf_5 rfl (lv_at hl 2 rfl) ?_
  obtain ⟨v6, h6, h⟩ := bnd h
  try dsimp only at h
  refine x_callS (L := (LC E b)) (As := [.int x2]) (rest := []) C hW hS (mX11_requireSide x2  v2.2 v6 h6) cwX11_requireSide csX11_requireSide mlX11_180 ⟨by decide, by decide⟩ rfl hl.1 (Nat.le_of_ble_eq_true rfl) ⟨by decide, by decide⟩ dX11_scanLeaf_6 rfl (fun n6 e6 H locs q ce hW hS hq hv hc => by rw [e6] at h; (try dsimp only at h); cases h; exact x_out C hT hW hS hq hv hc (by decide) (by decide)) (fun a6 e6 H locs hW hS => ?_)
  rw [e6] at h
  try dsimp only at h
  refine lv_aload_n hx0 hb dX11_scanLeaf_9 rfl (lv_at hl 0 rfl) ?_
  refine gtX11_6 (k := o0) C hW ho0 flX11_48 dX11_scanLeaf_10 ?_
  refine lv_iload_n hx0 hb dX11_scanLeaf_13 rfl (lv_at hl 1 rfl) ?_
  obtain ⟨v14, h14, h⟩ := bnd h
  try dsimp only at h
  refine w_callV (L := (LC E b)) (k := o0 + 42) (As := [.int x1]) (rest := []) C hW hS (kdlt (chX11_6 ho0) (by decide)) (ccX10 (chX11_6 ho0)) kcX10 (mX10_isPresent (o0 + 42) x1 (chX11_6 ho0) v6.2 v14 h14) cwX10_isPresent cvX10_isPresent rfl mlX11_153 ⟨by decide, by decide⟩ rfl hl.1 (Nat.le_of_ble_eq_true rfl) ⟨by decide, by decide⟩ dX11_scanLeaf_14 rfl (fun H locs hW hS => ?_)
  refine lv_if_ne (tgt := 30) hx0 hb dX11_scanLeaf_17 (by decide) (fun c17 => ?_) (fun c17 => ?_)
  · rw [if_neg c17] at h
    refine lv_aload_n hx0 hb dX11_scanLeaf_30 rfl (lv_at hl 0 rfl) ?_
    refine lv_iconst (v := (0 : Int32)) hx0 hb dX11_scanLeaf_31 (by decide) ?_
    refine lv_iload_n hx0 hb dX11_scanLeaf_32 rfl (lv_at hl 1 rfl) ?_
    refine lv_iload_n hx0 hb dX11_scanLeaf_33 rfl (lv_at hl 2 rfl) ?_
    obtain ⟨v34, h34, h⟩ := bnd h
    try dsimp only at h
    refine x_callV (L := (LC E b)) (k := o0) (As := [.int (0 : Int32), .int x1, .int x2]) (rest := []) C hW hS (kdlt ho0 (by decide)) (ccX11 ho0) kcX11 (mX11_addScan o0 (0 : Int32) x1 x2 ho0 v6.2 v34 h34) cwX11_addScan cvX11_addScan rfl mlX11_231 ⟨by decide, by decide⟩ rfl hl.1 (Nat.le_of_ble_eq_true rfl) ⟨by decide, by decide⟩ dX11_scanLeaf_34 rfl (fun n34 e34 H locs q ce hW hS hq hv hc => by rw [e34] at h; (try dsimp only at h); cases h; exact x_out C hT hW hS hq hv hc (by decide) (by decide)) (fun a34 e34 H locs hW hS => ?_)
    rw [e34] at h
    try dsimp only at h
    cases h
    exact x_iret C hW hS (by decide) (by decide) dX11_scanLeaf_37
  · rw [if_pos c17] at h
    cases h
    exact x_throw (n := 0) (si := 34) C hT (by decide +kernel) xat0 xgd0 xcl0 xin0 rfl hW hS hl.1 ⟨by decide, Nat.le_of_ble_eq_true rfl⟩ ⟨by decide, by decide⟩ (by decide) (by decide) dX11_scanLeaf_20 dX11_scanLeaf_23 dX11_scanLeaf_24 dX11_scanLeaf_26 dX11_scanLeaf_29
def fX11_requireOpening (o0 : Nat) (x1 : Int32) (σ : Mem) : Option Rx :=
  if x1 < 0 then (some (.inl 2, σ)) else ((fX10_countOpenings (o0 + 42) σ).bind fun v9 => if x1 < v9 then (some (.inr 0, σ)) else (some (.inl 2, σ)))
set_option maxRecDepth 100000 in
set_option maxHeartbeats 4000000 in
theorem mX11_requireOpening {l : Launch} {E : Ev} {b : Nat} (o0 : Nat) (x1 : Int32) (ho0 : kd o0 = 11) (σ : Mem) (r : Rx) (h : fX11_requireOpening o0 x1 σ = some r) : vx_Met l yX11_requireOpening (tw yX11_requireOpening cX11_requireOpening 2 none) { frames := 6, cells := 1, slots := 6, locals := 105 } (va_Pc [.ref (b + o0), .int x1] (Pr l E (LC E b) σ)) (Qx E (LC E b) rvV r) (Xx E (LC E b) r) 1 6 (La (LC E b)) := by
  refine cx_of (by decide) (Nat.le_of_ble_eq_true rfl) ?_
  intro p e s m below meth c C hT hW hS ls hl
  have hx0 := C.1
  have hb := C.2.1
  have hl : lv_has ls 2 [(0, .ref (b + o0)), (1, .int x1)] := hl
  unfold fX11_requireOpening at h
  refine lv_iload_n hx0 hb dX11_requireOpening_0 rfl (lv_at hl 1 rfl) ?_
  refine lv_if_lt (tgt := 15) hx0 hb dX11_requireOpening_1 (by decide) (fun c1 => ?_) (fun c1 => ?_)
  · rw [if_pos c1] at h
    cases h
    exact x_throwW (n := 2) (si := 36) C hT (by decide +kernel) xat2 xgd2 xcl2 xin2 rfl hW hS hl.1 ⟨by decide, Nat.le_of_ble_eq_true rfl⟩ ⟨by decide, by decide⟩ (by decide) (by decide) dX11_requireOpening_15 dX11_requireOpening_18 dX11_requireOpening_19 dX11_requireOpening_22 dX11_requireOpening_25
  · rw [if_neg c1] at h
    refine lv_iload_n hx0 hb dX11_requireOpening_4 rfl (lv_at hl 1 rfl) ?_
    refine lv_aload_n hx0 hb dX11_requireOpening_5 rfl (lv_at hl 0 rfl) ?_
    refine gtX11_6 (k := o0) C hW ho0 flX11_48 dX11_requireOpening_6 ?_
    obtain ⟨v9, h9, h⟩ := bnd h
    try dsimp only at h
    refine w_callV (L := (LC E b)) (k := o0 + 42) (As := []) (rest := [.int x1]) C hW hS (kdlt (chX11_6 ho0) (by decide)) (ccX10 (chX11_6 ho0)) kcX10 (mX10_countOpenings (o0 + 42) (chX11_6 ho0) σ v9 h9) cwX10_countOpenings cvX10_countOpenings rfl mlX11_300 ⟨by decide, by decide⟩ rfl hl.1 (Nat.le_of_ble_eq_true rfl) ⟨by decide, by decide⟩ dX11_requireOpening_9 rfl (fun H locs hW hS => ?_)
    refine lv_icmp_lt (tgt := 26) hx0 hb dX11_requireOpening_12 (by decide) (fun c12 => ?_) (fun c12 => ?_)
    · rw [if_pos c12] at h
      cases h
      exact x_vret C hW hS (by decide) (by decide) dX11_requireOpening_26
    · rw [if_neg c12] at h
      cases h
      exact x_throwW (n := 2) (si := 36) C hT (by decide +kernel) xat2 xgd2 xcl2 xin2 rfl hW hS hl.1 ⟨by decide, Nat.le_of_ble_eq_true rfl⟩ ⟨by decide, by decide⟩ (by decide) (by decide) dX11_requireOpening_15 dX11_requireOpening_18 dX11_requireOpening_19 dX11_requireOpening_22 dX11_requireOpening_25
def fX11_scanOpening (o0 : Nat) (x1 : Int32) (σ : Mem) : Option Rx :=
  (fX11_requireOpening o0 x1 σ).bind fun v2 => match v2.1 with | .inl n2 => some (.inl n2, v2.2) | .inr a2 => (fX10_leftOf (o0 + 42) x1 v2.2).bind fun v10 => (fX10_rightOf (o0 + 42) x1 v2.2).bind fun v19 => if v10 = (-1 : Int32) then (if v19 = (-1 : Int32) then (some (.inl 0, v2.2)) else ((fX11_addScan o0 (1 : Int32) v10 v19 v2.2).bind fun v47 => match v47.1 with | .inl n47 => some (.inl n47, v47.2) | .inr a47 => some (.inr a47, v47.2))) else ((fX11_addScan o0 (1 : Int32) v10 v19 v2.2).bind fun v47 => match v47.1 with | .inl n47 => some (.inl n47, v47.2) | .inr a47 => some (.inr a47, v47.2))
set_option maxRecDepth 100000 in
set_option maxHeartbeats 4000000 in
theorem mX11_scanOpening {l : Launch} {E : Ev} {b : Nat} (o0 : Nat) (x1 : Int32) (ho0 : kd o0 = 11) (σ : Mem) (r : Rx) (h : fX11_scanOpening o0 x1 σ = some r) : vx_Met l yX11_scanOpening (tw yX11_scanOpening cX11_scanOpening 4 (some .int)) { frames := 7, cells := 3, slots := 18, locals := 149 } (va_Pc [.ref (b + o0), .int x1] (Pr l E (LC E b) σ)) (Qx E (LC E b) rvI r) (Xx E (LC E b) r) 3 18 (La (LC E b)) := by
  refine cx_of (by decide) (Nat.le_of_ble_eq_true rfl) ?_
  intro p e s m below meth c C hT hW hS ls hl
  have hx0 := C.1
  have hb := C.2.1
  have hl : lv_has ls 4 [(0, .ref (b + o0)), (1, .int x1)] := hl
  unfold fX11_scanOpening at h
  refine lv_aload_n hx0 hb dX11_scanOpening_0 rfl (lv_at hl 0 rfl) ?_
  refine lv_iload_n hx0 hb dX11_scanOpening_1 rfl (lv_at hl 1 rfl) ?_
  obtain ⟨v2, h2, h⟩ := bnd h
  try dsimp only at h
  refine x_callV (L := (LC E b)) (k := o0) (As := [.int x1]) (rest := []) C hW hS (kdlt ho0 (by decide)) (ccX11 ho0) kcX11 (mX11_requireOpening o0 x1 ho0 σ v2 h2) cwX11_requireOpening cvX11_requireOpening rfl mlX11_235 ⟨by decide, by decide⟩ rfl hl.1 (Nat.le_of_ble_eq_true rfl) ⟨by decide, by decide⟩ dX11_scanOpening_2 rfl (fun n2 e2 H locs q ce hW hS hq hv hc => by rw [e2] at h; (try dsimp only at h); cases h; exact x_out C hT hW hS hq hv hc (by decide) (by decide)) (fun a2 e2 H locs hW hS => ?_)
  rw [e2] at h
  try dsimp only at h
  refine lv_aload_n hx0 hb dX11_scanOpening_5 rfl (lv_at hl 0 rfl) ?_
  refine gtX11_6 (k := o0) C hW ho0 flX11_48 dX11_scanOpening_6 ?_
  refine lv_iload_n hx0 hb dX11_scanOpening_9 rfl (lv_at hl 1 rfl) ?_
  obtain ⟨v10, h10, h⟩ := bnd h
  try dsimp only at h
  refine w_callV (L := (LC E b)) (k := o0 + 42) (As := [.int x1]) (rest := []) C hW hS (kdlt (chX11_6 ho0) (by decide)) (ccX10 (chX11_6 ho0)) kcX10 (mX10_leftOf (o0 + 42) x1 (chX11_6 ho0) v2.2 v10 h10) cwX10_leftOf cvX10_leftOf rfl mlX11_238 ⟨by decide, by decide⟩ rfl hl.1 (Nat.le_of_ble_eq_true rfl) ⟨by decide, by decide⟩ dX11_scanOpening_10 rfl (fun H locs hW hS => ?_)
  refine lv_istore_n (lv' := [(2, .int v10), (0, .ref (b + o0)), (1, .int x1)]) hx0 hb dX11_scanOpening_13 rfl hl (by decide) rfl (fun ls hl => ?_)
  refine lv_aload_n hx0 hb dX11_scanOpening_14 rfl (lv_at hl 1 rfl) ?_
  refine gtX11_6 (k := o0) C hW ho0 flX11_48 dX11_scanOpening_15 ?_
  refine lv_iload_n hx0 hb dX11_scanOpening_18 rfl (lv_at hl 2 rfl) ?_
  obtain ⟨v19, h19, h⟩ := bnd h
  try dsimp only at h
  refine w_callV (L := (LC E b)) (k := o0 + 42) (As := [.int x1]) (rest := []) C hW hS (kdlt (chX11_6 ho0) (by decide)) (ccX10 (chX11_6 ho0)) kcX10 (mX10_rightOf (o0 + 42) x1 (chX11_6 ho0) v2.2 v19 h19) cwX10_rightOf cvX10_rightOf rfl mlX11_241 ⟨by decide, by decide⟩ rfl hl.1 (Nat.le_of_ble_eq_true rfl) ⟨by decide, by decide⟩ dX11_scanOpening_19 rfl (fun H locs hW hS => ?_)
  refine lv_istore_n (lv' := [(3, .int v19), (2, .int v10), (0, .ref (b + o0)), (1, .int x1)]) hx0 hb dX11_scanOpening_22 rfl hl (by decide) rfl (fun ls hl => ?_)
  refine lv_iload_n hx0 hb dX11_scanOpening_23 rfl (lv_at hl 1 rfl) ?_
  refine lv_iconst (v := (-1 : Int32)) hx0 hb dX11_scanOpening_24 (by decide) ?_
  refine lv_icmp_ne (tgt := 43) hx0 hb dX11_scanOpening_25 (by decide) (fun c25 => ?_) (fun c25 => ?_)
  · rw [if_neg c25] at h
    refine lv_aload_n hx0 hb dX11_scanOpening_43 rfl (lv_at hl 2 rfl) ?_
    refine lv_iconst (v := (1 : Int32)) hx0 hb dX11_scanOpening_44 (by decide) ?_
    refine lv_iload_n hx0 hb dX11_scanOpening_45 rfl (lv_at hl 1 rfl) ?_
    refine lv_iload_n hx0 hb dX11_scanOpening_46 rfl (lv_at hl 0 rfl) ?_
    obtain ⟨v47, h47, h⟩ := bnd h
    try dsimp only at h
    refine x_callV (L := (LC E b)) (k := o0) (As := [.int (1 : Int32), .int v10, .int v19]) (rest := []) C hW hS (kdlt ho0 (by decide)) (ccX11 ho0) kcX11 (mX11_addScan o0 (1 : Int32) v10 v19 ho0 v2.2 v47 h47) cwX11_addScan cvX11_addScan rfl mlX11_231 ⟨by decide, by decide⟩ rfl hl.1 (Nat.le_of_ble_eq_true rfl) ⟨by decide, by decide⟩ dX11_scanOpening_47 rfl (fun n47 e47 H locs q ce hW hS hq hv hc => by rw [e47] at h; (try dsimp only at h); cases h; exact x_out C hT hW hS hq hv hc (by decide) (by decide)) (fun a47 e47 H locs hW hS => ?_)
    rw [e47] at h
    try dsimp only at h
    cases h
    exact x_iret C hW hS (by decide) (by decide) dX11_scanOpening_50
  · rw [if_pos c25] at h
    refine lv_iload_n hx0 hb dX11_scanOpening_28 rfl (lv_at hl 0 rfl) ?_
    refine lv_iconst (v := (-1 : Int32)) hx0 hb dX11_scanOpening_29 (by decide) ?_
    refine lv_icmp_ne (tgt := 43) hx0 hb dX11_scanOpening_30 (by decide) (fun c30 => ?_) (fun c30 => ?_)
    · rw [if_neg c30] at h
      refine lv_aload_n hx0 hb dX11_scanOpening_43 rfl (lv_at hl 2 rfl) ?_
      refine lv_iconst (v := (1 : Int32)) hx0 hb dX11_scanOpening_44 (by decide) ?_
      refine lv_iload_n hx0 hb dX11_scanOpening_45 rfl (lv_at hl 1 rfl) ?_
      refine lv_iload_n hx0 hb dX11_scanOpening_46 rfl (lv_at hl 0 rfl) ?_
      obtain ⟨v47, h47, h⟩ := bnd h
      try dsimp only at h
      refine x_callV (L := (LC E b)) (k := o0) (As := [.int (1 : Int32), .int v10, .int v19]) (rest := []) C hW hS (kdlt ho0 (by decide)) (ccX11 ho0) kcX11 (mX11_addScan o0 (1 : Int32) v10 v19 ho0 v2.2 v47 h47) cwX11_addScan cvX11_addScan rfl mlX11_231 ⟨by decide, by decide⟩ rfl hl.1 (Nat.le_of_ble_eq_true rfl) ⟨by decide, by decide⟩ dX11_scanOpening_47 rfl (fun n47 e47 H locs q ce hW hS hq hv hc => by rw [e47] at h; (try dsimp only at h); cases h; exact x_out C hT hW hS hq hv hc (by decide) (by decide)) (fun a47 e47 H locs hW hS => ?_)
      rw [e47] at h
      try dsimp only at h
      cases h
      exact x_iret C hW hS (by decide) (by decide) dX11_scanOpening_50
    · rw [if_pos c30] at h
      cases h
      exact x_throw (n := 0) (si := 37) C hT (by decide +kernel) xat0 xgd0 xcl0 xin0 rfl hW hS hl.1 ⟨by decide, Nat.le_of_ble_eq_true rfl⟩ ⟨by decide, by decide⟩ (by decide) (by decide) dX11_scanOpening_33 dX11_scanOpening_36 dX11_scanOpening_37 dX11_scanOpening_39 dX11_scanOpening_42
def fX11_scanSlip (o0 : Nat) (x1 : Int32) (x2 : Int32) (σ : Mem) : Option Rx :=
  (fX11_requireSlip o0 x1 σ).bind fun v2 => match v2.1 with | .inl n2 => some (.inl n2, v2.2) | .inr a2 => if x2 < 0 then (some (.inl 2, v2.2)) else ((fX10_sidesOfSlip (o0 + 42) x1 v2.2).bind fun v15 => if x2 < v15 then ((fX11_requireAttached o0 x1 v2.2).bind fun v33 => match v33.1 with | .inl n33 => some (.inl n33, v33.2) | .inr a33 => (fX11_addScan o0 (2 : Int32) x1 x2 v33.2).bind fun v40 => match v40.1 with | .inl n40 => some (.inl n40, v40.2) | .inr a40 => some (.inr a40, v40.2)) else (some (.inl 2, v2.2)))
set_option maxRecDepth 100000 in
set_option maxHeartbeats 4000000 in
theorem mX11_scanSlip {l : Launch} {E : Ev} {b : Nat} (o0 : Nat) (x1 : Int32) (x2 : Int32) (ho0 : kd o0 = 11) (σ : Mem) (r : Rx) (h : fX11_scanSlip o0 x1 x2 σ = some r) : vx_Met l yX11_scanSlip (tw yX11_scanSlip cX11_scanSlip 3 (some .int)) { frames := 7, cells := 4, slots := 24, locals := 149 } (va_Pc [.ref (b + o0), .int x1, .int x2] (Pr l E (LC E b) σ)) (Qx E (LC E b) rvI r) (Xx E (LC E b) r) 4 24 (La (LC E b)) := by
  refine cx_of (by decide) (Nat.le_of_ble_eq_true rfl) ?_
  intro p e s m below meth c C hT hW hS ls hl
  have hx0 := C.1
  have hb := C.2.1
  have hl : lv_has ls 3 [(0, .ref (b + o0)), (1, .int x1), (2, .int x2)] := hl
  unfold fX11_scanSlip at h
  refine lv_aload_n hx0 hb dX11_scanSlip_0 rfl (lv_at hl 0 rfl) ?_
  refine lv_iload_n hx0 hb dX11_scanSlip_1 rfl (lv_at hl 1 rfl) ?_
  obtain ⟨v2, h2, h⟩ := bnd h
  try dsimp only at h
  refine x_callV (L := (LC E b)) (k := o0) (As := [.int x1]) (rest := []) C hW hS (kdlt ho0 (by decide)) (ccX11 ho0) kcX11 (mX11_requireSlip o0 x1 ho0 σ v2 h2) cwX11_requireSlip cvX11_requireSlip rfl mlX11_201 ⟨by decide, by decide⟩ rfl hl.1 (Nat.le_of_ble_eq_true rfl) ⟨by decide, by decide⟩ dX11_scanSlip_2 rfl (fun n2 e2 H locs q ce hW hS hq hv hc => by rw [e2] at h; (try dsimp only at h); cases h; exact x_out C hT hW hS hq hv hc (by decide) (by decide)) (fun a2 e2 H locs hW hS => ?_)
  rw [e2] at h
  try dsimp only at h
  refine lv_iload_n hx0 hb dX11_scanSlip_5 rfl (lv_at hl 2 rfl) ?_
  refine lv_if_lt (tgt := 21) hx0 hb dX11_scanSlip_6 (by decide) (fun c6 => ?_) (fun c6 => ?_)
  · rw [if_pos c6] at h
    cases h
    exact x_throw (n := 2) (si := 38) C hT (by decide +kernel) xat2 xgd2 xcl2 xin2 rfl hW hS hl.1 ⟨by decide, Nat.le_of_ble_eq_true rfl⟩ ⟨by decide, by decide⟩ (by decide) (by decide) dX11_scanSlip_21 dX11_scanSlip_24 dX11_scanSlip_25 dX11_scanSlip_27 dX11_scanSlip_30
  · rw [if_neg c6] at h
    refine lv_iload_n hx0 hb dX11_scanSlip_9 rfl (lv_at hl 2 rfl) ?_
    refine lv_aload_n hx0 hb dX11_scanSlip_10 rfl (lv_at hl 0 rfl) ?_
    refine gtX11_6 (k := o0) C hW ho0 flX11_48 dX11_scanSlip_11 ?_
    refine lv_iload_n hx0 hb dX11_scanSlip_14 rfl (lv_at hl 1 rfl) ?_
    obtain ⟨v15, h15, h⟩ := bnd h
    try dsimp only at h
    refine w_callV (L := (LC E b)) (k := o0 + 42) (As := [.int x1]) (rest := [.int x2]) C hW hS (kdlt (chX11_6 ho0) (by decide)) (ccX10 (chX11_6 ho0)) kcX10 (mX10_sidesOfSlip (o0 + 42) x1 (chX11_6 ho0) v2.2 v15 h15) cwX10_sidesOfSlip cvX10_sidesOfSlip rfl mlX11_246 ⟨by decide, by decide⟩ rfl hl.1 (Nat.le_of_ble_eq_true rfl) ⟨by decide, by decide⟩ dX11_scanSlip_15 rfl (fun H locs hW hS => ?_)
    refine lv_icmp_lt (tgt := 31) hx0 hb dX11_scanSlip_18 (by decide) (fun c18 => ?_) (fun c18 => ?_)
    · rw [if_pos c18] at h
      refine lv_aload_n hx0 hb dX11_scanSlip_31 rfl (lv_at hl 0 rfl) ?_
      refine lv_iload_n hx0 hb dX11_scanSlip_32 rfl (lv_at hl 1 rfl) ?_
      obtain ⟨v33, h33, h⟩ := bnd h
      try dsimp only at h
      refine x_callV (L := (LC E b)) (k := o0) (As := [.int x1]) (rest := []) C hW hS (kdlt ho0 (by decide)) (ccX11 ho0) kcX11 (mX11_requireAttached o0 x1 ho0 v2.2 v33 h33) cwX11_requireAttached cvX11_requireAttached rfl mlX11_204 ⟨by decide, by decide⟩ rfl hl.1 (Nat.le_of_ble_eq_true rfl) ⟨by decide, by decide⟩ dX11_scanSlip_33 rfl (fun n33 e33 H locs q ce hW hS hq hv hc => by rw [e33] at h; (try dsimp only at h); cases h; exact x_out C hT hW hS hq hv hc (by decide) (by decide)) (fun a33 e33 H locs hW hS => ?_)
      rw [e33] at h
      try dsimp only at h
      refine lv_aload_n hx0 hb dX11_scanSlip_36 rfl (lv_at hl 0 rfl) ?_
      refine lv_iconst (v := (2 : Int32)) hx0 hb dX11_scanSlip_37 (by decide) ?_
      refine lv_iload_n hx0 hb dX11_scanSlip_38 rfl (lv_at hl 1 rfl) ?_
      refine lv_iload_n hx0 hb dX11_scanSlip_39 rfl (lv_at hl 2 rfl) ?_
      obtain ⟨v40, h40, h⟩ := bnd h
      try dsimp only at h
      refine x_callV (L := (LC E b)) (k := o0) (As := [.int (2 : Int32), .int x1, .int x2]) (rest := []) C hW hS (kdlt ho0 (by decide)) (ccX11 ho0) kcX11 (mX11_addScan o0 (2 : Int32) x1 x2 ho0 v33.2 v40 h40) cwX11_addScan cvX11_addScan rfl mlX11_231 ⟨by decide, by decide⟩ rfl hl.1 (Nat.le_of_ble_eq_true rfl) ⟨by decide, by decide⟩ dX11_scanSlip_40 rfl (fun n40 e40 H locs q ce hW hS hq hv hc => by rw [e40] at h; (try dsimp only at h); cases h; exact x_out C hT hW hS hq hv hc (by decide) (by decide)) (fun a40 e40 H locs hW hS => ?_)
      rw [e40] at h
      try dsimp only at h
      cases h
      exact x_iret C hW hS (by decide) (by decide) dX11_scanSlip_43
    · rw [if_neg c18] at h
      cases h
      exact x_throw (n := 2) (si := 38) C hT (by decide +kernel) xat2 xgd2 xcl2 xin2 rfl hW hS hl.1 ⟨by decide, Nat.le_of_ble_eq_true rfl⟩ ⟨by decide, by decide⟩ (by decide) (by decide) dX11_scanSlip_21 dX11_scanSlip_24 dX11_scanSlip_25 dX11_scanSlip_27 dX11_scanSlip_30
