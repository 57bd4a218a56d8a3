/-! the reference, by program out of the bytecode -/
def fX12_errorPosition (σ : Mem) : Option (Int32 × Mem) :=
  (fX12_readsText (up σ 0 0 (0 : Int32))).bind fun v6 => some (v6.1, v6.2)
set_option maxRecDepth 100000 in
set_option maxHeartbeats 4000000 in
theorem mX12_errorPosition {l : Launch} {E : Ev} {b : Nat} (σ : Mem) (r : (Int32 × Mem)) (h : fX12_errorPosition σ = some r) : Met l yX12_errorPosition (tw yX12_errorPosition cX12_errorPosition 1 (some .int)) { frames := 9, cells := 0, slots := 0, locals := 271 } (va_Pc [.ref (b + 0)] (Pr l E (LM E b) σ)) (Qz E (LM E b) (some (.int r.1)) r.2) 0 0 (La (LM E b)) := by
  refine ct_of (by decide) (Nat.le_of_ble_eq_true rfl) ?_
  intro p e s m below meth c C hW hS ls hl
  have hx0 := C.1
  have hb := C.2.1
  have hl : lv_has ls 1 [(0, .ref (b + 0))] := hl
  unfold fX12_errorPosition at h
  refine lv_aload_n hx0 hb dX12_errorPosition_0 rfl (lv_at hl 0 rfl) ?_
  refine lv_iconst (v := (0 : Int32)) hx0 hb dX12_errorPosition_1 (by decide) ?_
  refine ptX12_0 C hW hS flX12_3 dX12_errorPosition_2 (fun H locs hW hS => ?_)
  refine lv_aload_n hx0 hb dX12_errorPosition_5 rfl (lv_at hl 0 rfl) ?_
  obtain ⟨v6, h6, h⟩ := bnd h
  try dsimp only at h
  refine w_callV (L := (LM E b)) (k := 0) (As := []) (rest := []) C hW hS (show 0 < 18 by decide) cm0 kcX12 (mX12_readsText   (up σ 0 0 (0 : Int32)) v6 h6) cwX12_readsText cvX12_readsText rfl mlX12_209 ⟨by decide, by decide⟩ rfl hl.1 (Nat.le_of_ble_eq_true rfl) ⟨by decide, by decide⟩ dX12_errorPosition_6 rfl (fun H locs hW hS => ?_)
  cases h
  exact w_iret C hW hS dX12_errorPosition_9
def fX12_leaves_l4 : Nat → Int32 → Int32 → Mem → Option (Int32 × Int32)
  | 0, _, _, _ => none
  | n + 1, x1, x2, σ => if (σ 0 3) ≤ x2 then (some (x1, x2)) else (if x2 < 0 ∨ lm 1 ≤ x2.toNatClampNeg then none else fX12_leaves_l4 n (x1 + (σ 1 x2.toNatClampNeg)) (x2 + (1 : Int32)) σ)
set_option maxRecDepth 100000 in
set_option maxHeartbeats 4000000 in
theorem bX12_leaves_l4 {p : Program} {l : Launch} {e : Env} {s : State} {m : MethodId} {args : Array Value} {below : List Frame} {meth : Method} {c : Code} {E : Ev} {b : Nat} (C : Cx p l s m args meth c E cX12_leaves 3 RX12 (some .int)) (σ : Mem) {Qf : State → Prop} {q : Int32 × Int32} (hx : ∀ H locs ls, Wd E (LM E b) σ H → va_S (La (LM E b)) s.heap H locs → lv_has ls 3 [(0, .ref (b + 0)), (1, .int q.1), (2, .int q.2)] → W p l e { frames := 0, cells := 0, slots := 0, locals := 0 } s m args below meth c H locs 0 0 Qf (F0 m 27 ls [])) : ∀ (n : Nat) (x1 : Int32) (x2 : Int32), fX12_leaves_l4 n x1 x2 σ = some q → ∀ (H : Heap) (locs : List Loc) (ls : Array Slot), Wd E (LM E b) σ H → va_S (La (LM E b)) s.heap H locs → lv_has ls 3 [(0, .ref (b + 0)), (1, .int x1), (2, .int x2)] → W p l e { frames := 0, cells := 0, slots := 0, locals := 0 } s m args below meth c H locs 0 0 Qf (F0 m 4 ls []) := by
  have hx0 := C.1
  have hb := C.2.1
  intro n
  induction n with
  | zero => intro x1 x2 h; simp [fX12_leaves_l4] at h
  | succ n ih =>
    intro x1 x2 h H locs ls hW hS hl
    unfold fX12_leaves_l4 at h
    refine lv_iload_n hx0 hb dX12_leaves_4 rfl (lv_at hl 2 rfl) ?_
    refine lv_aload_n hx0 hb dX12_leaves_5 rfl (lv_at hl 0 rfl) ?_
    refine gtX12_3 C hW flX12_73 dX12_leaves_6 ?_
    refine lv_icmp_ge (tgt := 27) hx0 hb dX12_leaves_9 (by decide) (fun c9 => ?_) (fun c9 => ?_)
    · rw [if_pos c9] at h
      cases h
      exact hx _ _ _ hW hS (lv_sub hl [0, 1, 2] rfl)
    · rw [if_neg c9] at h
      refine lv_iload_n hx0 hb dX12_leaves_12 rfl (lv_at hl 1 rfl) ?_
      refine lv_aload_n hx0 hb dX12_leaves_13 rfl (lv_at hl 0 rfl) ?_
      refine gtX12_1 C hW flX12_13 dX12_leaves_14 ?_
      refine lv_iload_n hx0 hb dX12_leaves_17 rfl (lv_at hl 2 rfl) ?_
      by_cases z18 : x2 < 0 ∨ lm 1 ≤ x2.toNatClampNeg
      · rw [if_pos z18] at h; cases h
      rw [if_neg z18] at h
      refine ldIm (k := 1) C hW (by decide) z18 dX12_leaves_18 ?_
      refine lv_iadd hx0 hb dX12_leaves_19 ?_
      refine lv_istore_n (lv' := [(1, .int (x1 + (σ 1 x2.toNatClampNeg))), (0, .ref (b + 0)), (2, .int x2)]) hx0 hb dX12_leaves_20 rfl hl (by decide) rfl (fun ls hl => ?_)
      refine lv_iinc (v := x2 + (1 : Int32)) (lv' := [(2, .int (x2 + (1 : Int32))), (1, .int (x1 + (σ 1 x2.toNatClampNeg))), (0, .ref (b + 0))]) hx0 hb dX12_leaves_21 hl (k := 2) rfl rfl (by decide) rfl (fun ls hl => ?_)
      refine lv_goto (tgt := 4) hx0 hb dX12_leaves_24 (by decide) ?_
      exact ih (x1 + (σ 1 x2.toNatClampNeg)) (x2 + (1 : Int32)) h _ _ _ hW hS (lv_sub hl [2, 1, 0] rfl)
def fX12_leaves (σ : Mem) : Option Int32 :=
  (fX12_leaves_l4 FU (0 : Int32) (0 : Int32) σ).bind fun q4 => some q4.1
set_option maxRecDepth 100000 in
set_option maxHeartbeats 4000000 in
theorem mX12_leaves {l : Launch} {E : Ev} {b : Nat} (σ : Mem) (r : Int32) (h : fX12_leaves σ = some r) : Met l yX12_leaves (tw yX12_leaves cX12_leaves 3 (some .int)) { frames := 0, cells := 0, slots := 0, locals := 0 } (va_Pc [.ref (b + 0)] (Pr l E (LM E b) σ)) (Qz E (LM E b) (some (.int r)) σ) 0 0 (La (LM E b)) := by
  refine ct_of (by decide) (Nat.le_of_ble_eq_true rfl) ?_
  intro p e s m below meth c C hW hS ls hl
  have hx0 := C.1
  have hb := C.2.1
  have hl : lv_has ls 3 [(0, .ref (b + 0))] := hl
  unfold fX12_leaves at h
  refine lv_iconst (v := (0 : Int32)) hx0 hb dX12_leaves_0 (by decide) ?_
  refine lv_istore_n (lv' := [(1, .int (0 : Int32)), (0, .ref (b + 0))]) hx0 hb dX12_leaves_1 rfl hl (by decide) rfl (fun ls hl => ?_)
  refine lv_iconst (v := (0 : Int32)) hx0 hb dX12_leaves_2 (by decide) ?_
  refine lv_istore_n (lv' := [(2, .int (0 : Int32)), (1, .int (0 : Int32)), (0, .ref (b + 0))]) hx0 hb dX12_leaves_3 rfl hl (by decide) rfl (fun ls hl => ?_)
  obtain ⟨q4, h4, h⟩ := bnd h
  try dsimp only at h
  refine bX12_leaves_l4 C   σ (q := q4) ?_ FU (0 : Int32) (0 : Int32) h4 _ _ _ hW hS (lv_sub hl [2, 1, 0] rfl)
  intro H locs ls hW hS hl
  refine lv_iload_n hx0 hb dX12_leaves_27 rfl (lv_at hl 1 rfl) ?_
  cases h
  exact w_iret C hW hS dX12_leaves_28
def fX12_load (σ : Mem) : Option (Int32 × Mem) :=
  (fX12_readsText (up σ 0 0 (0 : Int32))).bind fun v6 => if v6.1 = (-1 : Int32) then ((fX12_begins (up v6.2 0 12 (0 : Int32))).bind fun v25 => (fX12_leaves v25).bind fun v29 => some (v29, v25)) else ((fX12_fails (1 : Int32) v6.2).bind fun v15 => some (v15.1, v15.2))
set_option maxRecDepth 100000 in
set_option maxHeartbeats 4000000 in
theorem mX12_load {l : Launch} {E : Ev} {b : Nat} (σ : Mem) (r : (Int32 × Mem)) (h : fX12_load σ = some r) : Met l yX12_load (tw yX12_load cX12_load 1 (some .int)) { frames := 9, cells := 0, slots := 0, locals := 271 } (va_Pc [.ref (b + 0)] (Pr l E (LM E b) σ)) (Qz E (LM E b) (some (.int r.1)) r.2) 0 0 (La (LM E b)) := by
  refine ct_of (by decide) (Nat.le_of_ble_eq_true rfl) ?_
  intro p e s m below meth c C hW hS ls hl
  have hx0 := C.1
  have hb := C.2.1
  have hl : lv_has ls 1 [(0, .ref (b + 0))] := hl
  unfold fX12_load at h
  refine lv_aload_n hx0 hb dX12_load_0 rfl (lv_at hl 0 rfl) ?_
  refine lv_iconst (v := (0 : Int32)) hx0 hb dX12_load_1 (by decide) ?_
  refine ptX12_0 C hW hS flX12_3 dX12_load_2 (fun H locs hW hS => ?_)
  refine lv_aload_n hx0 hb dX12_load_5 rfl (lv_at hl 0 rfl) ?_
  obtain ⟨v6, h6, h⟩ := bnd h
  try dsimp only at h
  refine w_callV (L := (LM E b)) (k := 0) (As := []) (rest := []) C hW hS (show 0 < 18 by decide) cm0 kcX12 (mX12_readsText   (up σ 0 0 (0 : Int32)) v6 h6) cwX12_readsText cvX12_readsText rfl mlX12_209 ⟨by decide, by decide⟩ rfl hl.1 (Nat.le_of_ble_eq_true rfl) ⟨by decide, by decide⟩ dX12_load_6 rfl (fun H locs hW hS => ?_)
  refine lv_iconst (v := (-1 : Int32)) hx0 hb dX12_load_9 (by decide) ?_
  refine lv_icmp_eq (tgt := 19) hx0 hb dX12_load_10 (by decide) (fun c10 => ?_) (fun c10 => ?_)
  · rw [if_pos c10] at h
    refine lv_aload_n hx0 hb dX12_load_19 rfl (lv_at hl 0 rfl) ?_
    refine lv_iconst (v := (0 : Int32)) hx0 hb dX12_load_20 (by decide) ?_
    refine ptX12_12 C hW hS flX12_87 dX12_load_21 (fun H locs hW hS => ?_)
    refine lv_aload_n hx0 hb dX12_load_24 rfl (lv_at hl 0 rfl) ?_
    obtain ⟨v25, h25, h⟩ := bnd h
    try dsimp only at h
    refine w_callV (L := (LM E b)) (k := 0) (As := []) (rest := []) C hW hS (show 0 < 18 by decide) cm0 kcX12 (mX12_begins   (up v6.2 0 12 (0 : Int32)) v25 h25) cwX12_begins cvX12_begins rfl mlX12_70 ⟨by decide, by decide⟩ rfl hl.1 (Nat.le_of_ble_eq_true rfl) ⟨by decide, by decide⟩ dX12_load_25 rfl (fun H locs hW hS => ?_)
    refine lv_aload_n hx0 hb dX12_load_28 rfl (lv_at hl 0 rfl) ?_
    obtain ⟨v29, h29, h⟩ := bnd h
    try dsimp only at h
    refine w_callV (L := (LM E b)) (k := 0) (As := []) (rest := []) C hW hS (show 0 < 18 by decide) cm0 kcX12 (mX12_leaves   v25 v29 h29) cwX12_leaves cvX12_leaves rfl mlX12_212 ⟨by decide, by decide⟩ rfl hl.1 (Nat.le_of_ble_eq_true rfl) ⟨by decide, by decide⟩ dX12_load_29 rfl (fun H locs hW hS => ?_)
    cases h
    exact w_iret C hW hS dX12_load_32
  · rw [if_neg c10] at h
    refine lv_aload_n hx0 hb dX12_load_13 rfl (lv_at hl 0 rfl) ?_
    refine lv_iconst (v := (1 : Int32)) hx0 hb dX12_load_14 (by decide) ?_
    obtain ⟨v15, h15, h⟩ := bnd h
    try dsimp only at h
    refine w_callV (L := (LM E b)) (k := 0) (As := [.int (1 : Int32)]) (rest := []) C hW hS (show 0 < 18 by decide) cm0 kcX12 (mX12_fails (1 : Int32)  v6.2 v15 h15) cwX12_fails cvX12_fails rfl mlX12_94 ⟨by decide, by decide⟩ rfl hl.1 (Nat.le_of_ble_eq_true rfl) ⟨by decide, by decide⟩ dX12_load_15 rfl (fun H locs hW hS => ?_)
    cases h
    exact w_iret C hW hS dX12_load_18
def fX12_isLeaf (x1 : Int32) (σ : Mem) : Option Int32 :=
  (fX12_leaves σ).bind fun v4 => (fX12_isIn x1.toInt64 (0 : Int64) ((v4 - (1 : Int32)).toInt64) σ).bind fun v10 => if v10 = 0 ∨ v10 = 1 then some v10 else none
set_option maxRecDepth 100000 in
set_option maxHeartbeats 4000000 in
theorem mX12_isLeaf {l : Launch} {E : Ev} {b : Nat} (x1 : Int32) (σ : Mem) (r : Int32) (h : fX12_isLeaf x1 σ = some r) : Met l yX12_isLeaf (tw yX12_isLeaf cX12_isLeaf 2 (some .boolean)) { frames := 1, cells := 0, slots := 0, locals := 25 } (va_Pc [.ref (b + 0), .int x1] (Pr l E (LM E b) σ)) (Qz E (LM E b) (some (.int r)) σ) 0 0 (La (LM E b)) := by
  refine ct_of (by decide) (Nat.le_of_ble_eq_true rfl) ?_
  intro p e s m below meth c C hW hS ls hl
  have hx0 := C.1
  have hb := C.2.1
  have hl : lv_has ls 2 [(0, .ref (b + 0)), (1, .int x1)] := hl
  unfold fX12_isLeaf at h
  refine lv_iload_n hx0 hb dX12_isLeaf_0 rfl (lv_at hl 1 rfl) ?_
  refine lv_i2l hx0 hb dX12_isLeaf_1 rfl ?_
  refine lv_lconst (v := (0 : Int64)) hx0 hb dX12_isLeaf_2 (by decide) ?_
  refine lv_aload_n hx0 hb dX12_isLeaf_3 rfl (lv_at hl 0 rfl) ?_
  obtain ⟨v4, h4, h⟩ := bnd h
  try dsimp only at h
  refine w_callV (L := (LM E b)) (k := 0) (As := []) (rest := [.long (0 : Int64), .long x1.toInt64]) C hW hS (show 0 < 18 by decide) cm0 kcX12 (mX12_leaves   σ v4 h4) cwX12_leaves cvX12_leaves rfl mlX12_212 ⟨by decide, by decide⟩ rfl hl.1 (Nat.le_of_ble_eq_true rfl) ⟨by decide, by decide⟩ dX12_isLeaf_4 rfl (fun H locs hW hS => ?_)
  refine lv_iconst (v := (1 : Int32)) hx0 hb dX12_isLeaf_7 (by decide) ?_
  refine lv_isub hx0 hb dX12_isLeaf_8 ?_
  refine lv_i2l hx0 hb dX12_isLeaf_9 rfl ?_
  obtain ⟨v10, h10, h⟩ := bnd h
  try dsimp only at h
  refine w_callS (L := (LM E b)) (As := [.long x1.toInt64, .long (0 : Int64), .long ((v4 - (1 : Int32)).toInt64)]) (rest := []) C hW hS (mX12_isIn x1.toInt64 (0 : Int64) ((v4 - (1 : Int32)).toInt64)  σ v10 h10) cwX12_isIn csX12_isIn mlX12_101 ⟨by decide, by decide⟩ rfl hl.1 (Nat.le_of_ble_eq_true rfl) ⟨by decide, by decide⟩ dX12_isLeaf_10 rfl (fun H locs hW hS => ?_)
  by_cases z13 : v10 = 0 ∨ v10 = 1
  case neg => rw [if_neg z13] at h; cases h
  rw [if_pos z13] at h
  cases h
  exact w_zret C hW hS z13 dX12_isLeaf_13
def fX12_isPresent (x1 : Int32) (σ : Mem) : Option Int32 :=
  if ((279 : Int32) + x1) < 0 ∨ lm 3 ≤ ((279 : Int32) + x1).toNatClampNeg then none else if (σ 3 ((279 : Int32) + x1).toNatClampNeg) = 0 then (some (1 : Int32)) else (some (0 : Int32))
set_option maxRecDepth 100000 in
set_option maxHeartbeats 4000000 in
theorem mX12_isPresent {l : Launch} {E : Ev} {b : Nat} (x1 : Int32) (σ : Mem) (r : Int32) (h : fX12_isPresent x1 σ = some r) : Met l yX12_isPresent (tw yX12_isPresent cX12_isPresent 2 (some .boolean)) { frames := 0, cells := 0, slots := 0, locals := 0 } (va_Pc [.ref (b + 0), .int x1] (Pr l E (LM E b) σ)) (Qz E (LM E b) (some (.int r)) σ) 0 0 (La (LM E b)) := by
  refine ct_of (by decide) (Nat.le_of_ble_eq_true rfl) ?_
  intro p e s m below meth c C hW hS ls hl
  have hx0 := C.1
  have hb := C.2.1
  have hl : lv_has ls 2 [(0, .ref (b + 0)), (1, .int x1)] := hl
  unfold fX12_isPresent at h
  refine lv_aload_n hx0 hb dX12_isPresent_0 rfl (lv_at hl 0 rfl) ?_
  refine gtX12_5 C hW flX12_20 dX12_isPresent_1 ?_
  refine lv_sipush (v := (279 : Int32)) hx0 hb dX12_isPresent_4 (by decide) ?_
  refine lv_iload_n hx0 hb dX12_isPresent_7 rfl (lv_at hl 1 rfl) ?_
  refine lv_iadd hx0 hb dX12_isPresent_8 ?_
  by_cases z9 : ((279 : Int32) + x1) < 0 ∨ lm 3 ≤ ((279 : Int32) + x1).toNatClampNeg
  · rw [if_pos z9] at h; cases h
  rw [if_neg z9] at h
  refine ldIm (k := 3) C hW (by decide) z9 dX12_isPresent_9 ?_
  refine lv_if_ne (tgt := 17) hx0 hb dX12_isPresent_10 (by decide) (fun c10 => ?_) (fun c10 => ?_)
  · rw [if_neg c10] at h
    refine lv_iconst (v := (0 : Int32)) hx0 hb dX12_isPresent_17 (by decide) ?_
    cases h
    exact w_zret C hW hS (Or.inl rfl) dX12_isPresent_18
  · rw [if_pos c10] at h
    refine lv_iconst (v := (1 : Int32)) hx0 hb dX12_isPresent_13 (by decide) ?_
    refine lv_goto (tgt := 18) hx0 hb dX12_isPresent_14 (by decide) ?_
    cases h
    exact w_zret C hW hS (Or.inr rfl) dX12_isPresent_18
def fX12_present_l4 : Nat → Int32 → Int32 → Mem → Option (Int32 × Int32)
  | 0, _, _, _ => none
  | n + 1, x1, x2, σ => (fX12_leaves σ).bind fun v6 => if v6 ≤ x2 then (some (x1, x2)) else ((fX12_isPresent x2 σ).bind fun v15 => if v15 = 0 then (fX12_present_l4 n (x1 + (0 : Int32)) (x2 + (1 : Int32)) σ) else (fX12_present_l4 n (x1 + (1 : Int32)) (x2 + (1 : Int32)) σ))
set_option maxRecDepth 100000 in
set_option maxHeartbeats 4000000 in
theorem bX12_present_l4 {p : Program} {l : Launch} {e : Env} {s : State} {m : MethodId} {args : Array Value} {below : List Frame} {meth : Method} {c : Code} {E : Ev} {b : Nat} (C : Cx p l s m args meth c E cX12_present 3 RX12 (some .int)) (σ : Mem) {Qf : State → Prop} {q : Int32 × Int32} (hx : ∀ H locs ls, Wd E (LM E b) σ H → va_S (La (LM E b)) s.heap H locs → lv_has ls 3 [(0, .ref (b + 0)), (1, .int q.1), (2, .int q.2)] → W p l e { frames := 1, cells := 0, slots := 0, locals := 22 } s m args below meth c H locs 0 0 Qf (F0 m 34 ls [])) : ∀ (n : Nat) (x1 : Int32) (x2 : Int32), fX12_present_l4 n x1 x2 σ = some q → ∀ (H : Heap) (locs : List Loc) (ls : Array Slot), Wd E (LM E b) σ H → va_S (La (LM E b)) s.heap H locs → lv_has ls 3 [(0, .ref (b + 0)), (1, .int x1), (2, .int x2)] → W p l e { frames := 1, cells := 0, slots := 0, locals := 22 } s m args below meth c H locs 0 0 Qf (F0 m 4 ls []) := by
  have hx0 := C.1
  have hb := C.2.1
  intro n
  induction n with
  | zero => intro x1 x2 h; simp [fX12_present_l4] at h
  | succ n ih =>
    intro x1 x2 h H locs ls hW hS hl
    unfold fX12_present_l4 at h
    refine lv_iload_n hx0 hb dX12_present_4 rfl (lv_at hl 2 rfl) ?_
    refine lv_aload_n hx0 hb dX12_present_5 rfl (lv_at hl 0 rfl) ?_
    obtain ⟨v6, h6, h⟩ := bnd h
    try dsimp only at h
    refine w_callV (L := (LM E b)) (k := 0) (As := []) (rest := [.int x2]) C hW hS (show 0 < 18 by decide) cm0 kcX12 (mX12_leaves   σ v6 h6) cwX12_leaves cvX12_leaves rfl mlX12_212 ⟨by decide, by decide⟩ rfl hl.1 (Nat.le_of_ble_eq_true rfl) ⟨by decide, by decide⟩ dX12_present_6 rfl (fun H locs hW hS => ?_)
    refine lv_icmp_ge (tgt := 34) hx0 hb dX12_present_9 (by decide) (fun c9 => ?_) (fun c9 => ?_)
    · rw [if_pos c9] at h
      cases h
      exact hx _ _ _ hW hS (lv_sub hl [0, 1, 2] rfl)
    · rw [if_neg c9] at h
      refine lv_iload_n hx0 hb dX12_present_12 rfl (lv_at hl 1 rfl) ?_
      refine lv_aload_n hx0 hb dX12_present_13 rfl (lv_at hl 0 rfl) ?_
      refine lv_iload_n hx0 hb dX12_present_14 rfl (lv_at hl 2 rfl) ?_
      obtain ⟨v15, h15, h⟩ := bnd h
      try dsimp only at h
      refine w_callV (L := (LM E b)) (k := 0) (As := [.int x2]) (rest := [.int x1]) C hW hS (show 0 < 18 by decide) cm0 kcX12 (mX12_isPresent x2  σ v15 h15) cwX12_isPresent cvX12_isPresent rfl mlX12_215 ⟨by decide, by decide⟩ rfl hl.1 (Nat.le_of_ble_eq_true rfl) ⟨by decide, by decide⟩ dX12_present_15 rfl (fun H locs hW hS => ?_)
      refine lv_if_eq (tgt := 25) hx0 hb dX12_present_18 (by decide) (fun c18 => ?_) (fun c18 => ?_)
      · rw [if_pos c18] at h
        refine lv_iconst (v := (0 : Int32)) hx0 hb dX12_present_25 (by decide) ?_
        refine lv_iadd hx0 hb dX12_present_26 ?_
        refine lv_istore_n (lv' := [(1, .int (x1 + (0 : Int32))), (0, .ref (b + 0)), (2, .int x2)]) hx0 hb dX12_present_27 rfl hl (by decide) rfl (fun ls hl => ?_)
        refine lv_iinc (v := x2 + (1 : Int32)) (lv' := [(2, .int (x2 + (1 : Int32))), (1, .int (x1 + (0 : Int32))), (0, .ref (b + 0))]) hx0 hb dX12_present_28 hl (k := 2) rfl rfl (by decide) rfl (fun ls hl => ?_)
        refine lv_goto (tgt := 4) hx0 hb dX12_present_31 (by decide) ?_
        exact ih (x1 + (0 : Int32)) (x2 + (1 : Int32)) h _ _ _ hW hS (lv_sub hl [2, 1, 0] rfl)
      · rw [if_neg c18] at h
        refine lv_iconst (v := (1 : Int32)) hx0 hb dX12_present_21 (by decide) ?_
        refine lv_goto (tgt := 26) hx0 hb dX12_present_22 (by decide) ?_
        refine lv_iadd hx0 hb dX12_present_26 ?_
        refine lv_istore_n (lv' := [(1, .int (x1 + (1 : Int32))), (0, .ref (b + 0)), (2, .int x2)]) hx0 hb dX12_present_27 rfl hl (by decide) rfl (fun ls hl => ?_)
        refine lv_iinc (v := x2 + (1 : Int32)) (lv' := [(2, .int (x2 + (1 : Int32))), (1, .int (x1 + (1 : Int32))), (0, .ref (b + 0))]) hx0 hb dX12_present_28 hl (k := 2) rfl rfl (by decide) rfl (fun ls hl => ?_)
        refine lv_goto (tgt := 4) hx0 hb dX12_present_31 (by decide) ?_
        exact ih (x1 + (1 : Int32)) (x2 + (1 : Int32)) h _ _ _ hW hS (lv_sub hl [2, 1, 0] rfl)
def fX12_present (σ : Mem) : Option Int32 :=
  (fX12_present_l4 FU (0 : Int32) (0 : Int32) σ).bind fun q4 => some q4.1
set_option maxRecDepth 100000 in
set_option maxHeartbeats 4000000 in
theorem mX12_present {l : Launch} {E : Ev} {b : Nat} (σ : Mem) (r : Int32) (h : fX12_present σ = some r) : Met l yX12_present (tw yX12_present cX12_present 3 (some .int)) { frames := 1, cells := 0, slots := 0, locals := 22 } (va_Pc [.ref (b + 0)] (Pr l E (LM E b) σ)) (Qz E (LM E b) (some (.int r)) σ) 0 0 (La (LM E b)) := by
  refine ct_of (by decide) (Nat.le_of_ble_eq_true rfl) ?_
  intro p e s m below meth c C hW hS ls hl
  have hx0 := C.1
  have hb := C.2.1
  have hl : lv_has ls 3 [(0, .ref (b + 0))] := hl
  unfold fX12_present at h
  refine lv_iconst (v := (0 : Int32)) hx0 hb dX12_present_0 (by decide) ?_
  refine lv_istore_n (lv' := [(1, .int (0 : Int32)), (0, .ref (b + 0))]) hx0 hb dX12_present_1 rfl hl (by decide) rfl (fun ls hl => ?_)
  refine lv_iconst (v := (0 : Int32)) hx0 hb dX12_present_2 (by decide) ?_
  refine lv_istore_n (lv' := [(2, .int (0 : Int32)), (1, .int (0 : Int32)), (0, .ref (b + 0))]) hx0 hb dX12_present_3 rfl hl (by decide) rfl (fun ls hl => ?_)
  obtain ⟨q4, h4, h⟩ := bnd h
  try dsimp only at h
  refine bX12_present_l4 C   σ (q := q4) ?_ FU (0 : Int32) (0 : Int32) h4 _ _ _ hW hS (lv_sub hl [2, 1, 0] rfl)
  intro H locs ls hW hS hl
  refine lv_iload_n hx0 hb dX12_present_34 rfl (lv_at hl 1 rfl) ?_
  cases h
  exact w_iret C hW hS dX12_present_35
def fX12_isSlip (x1 : Int32) (σ : Mem) : Option Int32 :=
  if (0 : Int32) < 0 ∨ lm 3 ≤ (0 : Int32).toNatClampNeg then none else (fX12_isIn x1.toInt64 (0 : Int64) (((σ 3 (0 : Int32).toNatClampNeg) - (1 : Int32)).toInt64) σ).bind fun v12 => if v12 = 0 ∨ v12 = 1 then some v12 else none
set_option maxRecDepth 100000 in
set_option maxHeartbeats 4000000 in
theorem mX12_isSlip {l : Launch} {E : Ev} {b : Nat} (x1 : Int32) (σ : Mem) (r : Int32) (h : fX12_isSlip x1 σ = some r) : Met l yX12_isSlip (tw yX12_isSlip cX12_isSlip 2 (some .boolean)) { frames := 1, cells := 0, slots := 0, locals := 25 } (va_Pc [.ref (b + 0), .int x1] (Pr l E (LM E b) σ)) (Qz E (LM E b) (some (.int r)) σ) 0 0 (La (LM E b)) := by
  refine ct_of (by decide) (Nat.le_of_ble_eq_true rfl) ?_
  intro p e s m below meth c C hW hS ls hl
  have hx0 := C.1
  have hb := C.2.1
  have hl : lv_has ls 2 [(0, .ref (b + 0)), (1, .int x1)] := hl
  unfold fX12_isSlip at h
  refine lv_iload_n hx0 hb dX12_isSlip_0 rfl (lv_at hl 1 rfl) ?_
  refine lv_i2l hx0 hb dX12_isSlip_1 rfl ?_
  refine lv_lconst (v := (0 : Int64)) hx0 hb dX12_isSlip_2 (by decide) ?_
  refine lv_aload_n hx0 hb dX12_isSlip_3 rfl (lv_at hl 0 rfl) ?_
  refine gtX12_5 C hW flX12_20 dX12_isSlip_4 ?_
  refine lv_iconst (v := (0 : Int32)) hx0 hb dX12_isSlip_7 (by decide) ?_
  by_cases z8 : (0 : Int32) < 0 ∨ lm 3 ≤ (0 : Int32).toNatClampNeg
  · rw [if_pos z8] at h; cases h
  rw [if_neg z8] at h
  refine ldIm (k := 3) C hW (by decide) z8 dX12_isSlip_8 ?_
  refine lv_iconst (v := (1 : Int32)) hx0 hb dX12_isSlip_9 (by decide) ?_
  refine lv_isub hx0 hb dX12_isSlip_10 ?_
  refine lv_i2l hx0 hb dX12_isSlip_11 rfl ?_
  obtain ⟨v12, h12, h⟩ := bnd h
  try dsimp only at h
  refine w_callS (L := (LM E b)) (As := [.long x1.toInt64, .long (0 : Int64), .long (((σ 3 (0 : Int32).toNatClampNeg) - (1 : Int32)).toInt64)]) (rest := []) C hW hS (mX12_isIn x1.toInt64 (0 : Int64) (((σ 3 (0 : Int32).toNatClampNeg) - (1 : Int32)).toInt64)  σ v12 h12) cwX12_isIn csX12_isIn mlX12_101 ⟨by decide, by decide⟩ rfl hl.1 (Nat.le_of_ble_eq_true rfl) ⟨by decide, by decide⟩ dX12_isSlip_12 rfl (fun H locs hW hS => ?_)
  by_cases z15 : v12 = 0 ∨ v12 = 1
  case neg => rw [if_neg z15] at h; cases h
  rw [if_pos z15] at h
  cases h
  exact w_zret C hW hS z15 dX12_isSlip_15
def fX12_ofSlip (x1 : Int32) (x2 : Int32) (σ : Mem) : Option Int32 :=
  if (((5 : Int32) + ((3 : Int32) * x1)) + x2) < 0 ∨ lm 3 ≤ (((5 : Int32) + ((3 : Int32) * x1)) + x2).toNatClampNeg then none else some (σ 3 (((5 : Int32) + ((3 : Int32) * x1)) + x2).toNatClampNeg)
set_option maxRecDepth 100000 in
set_option maxHeartbeats 4000000 in
theorem mX12_ofSlip {l : Launch} {E : Ev} {b : Nat} (x1 : Int32) (x2 : Int32) (σ : Mem) (r : Int32) (h : fX12_ofSlip x1 x2 σ = some r) : Met l yX12_ofSlip (tw yX12_ofSlip cX12_ofSlip 3 (some .int)) { frames := 0, cells := 0, slots := 0, locals := 0 } (va_Pc [.ref (b + 0), .int x1, .int x2] (Pr l E (LM E b) σ)) (Qz E (LM E b) (some (.int r)) σ) 0 0 (La (LM E b)) := by
  refine ct_of (by decide) (Nat.le_of_ble_eq_true rfl) ?_
  intro p e s m below meth c C hW hS ls hl
  have hx0 := C.1
  have hb := C.2.1
  have hl : lv_has ls 3 [(0, .ref (b + 0)), (1, .int x1), (2, .int x2)] := hl
  unfold fX12_ofSlip at h
  refine lv_aload_n hx0 hb dX12_ofSlip_0 rfl (lv_at hl 0 rfl) ?_
  refine gtX12_5 C hW flX12_20 dX12_ofSlip_1 ?_
  refine lv_iconst (v := (5 : Int32)) hx0 hb dX12_ofSlip_4 (by decide) ?_
  refine lv_iconst (v := (3 : Int32)) hx0 hb dX12_ofSlip_5 (by decide) ?_
  refine lv_iload_n hx0 hb dX12_ofSlip_6 rfl (lv_at hl 1 rfl) ?_
  refine lv_imul hx0 hb dX12_ofSlip_7 ?_
  refine lv_iadd hx0 hb dX12_ofSlip_8 ?_
  refine lv_iload_n hx0 hb dX12_ofSlip_9 rfl (lv_at hl 2 rfl) ?_
  refine lv_iadd hx0 hb dX12_ofSlip_10 ?_
  by_cases z11 : (((5 : Int32) + ((3 : Int32) * x1)) + x2) < 0 ∨ lm 3 ≤ (((5 : Int32) + ((3 : Int32) * x1)) + x2).toNatClampNeg
  · rw [if_pos z11] at h; cases h
  rw [if_neg z11] at h
  refine ldIm (k := 3) C hW (by decide) z11 dX12_ofSlip_11 ?_
  cases h
  exact w_iret C hW hS dX12_ofSlip_12
def fX12_isAttached (x1 : Int32) (σ : Mem) : Option Int32 :=
  (fX12_ofSlip x1 (0 : Int32) σ).bind fun v3 => if v3 = (-1 : Int32) then (some (0 : Int32)) else (some (1 : Int32))
set_option maxRecDepth 100000 in
set_option maxHeartbeats 4000000 in
theorem mX12_isAttached {l : Launch} {E : Ev} {b : Nat} (x1 : Int32) (σ : Mem) (r : Int32) (h : fX12_isAttached x1 σ = some r) : Met l yX12_isAttached (tw yX12_isAttached cX12_isAttached 2 (some .boolean)) { frames := 1, cells := 0, slots := 0, locals := 22 } (va_Pc [.ref (b + 0), .int x1] (Pr l E (LM E b) σ)) (Qz E (LM E b) (some (.int r)) σ) 0 0 (La (LM E b)) := by
  refine ct_of (by decide) (Nat.le_of_ble_eq_true rfl) ?_
  intro p e s m below meth c C hW hS ls hl
  have hx0 := C.1
  have hb := C.2.1
  have hl : lv_has ls 2 [(0, .ref (b + 0)), (1, .int x1)] := hl
  unfold fX12_isAttached at h
  refine lv_aload_n hx0 hb dX12_isAttached_0 rfl (lv_at hl 0 rfl) ?_
  refine lv_iload_n hx0 hb dX12_isAttached_1 rfl (lv_at hl 1 rfl) ?_
  refine lv_iconst (v := (0 : Int32)) hx0 hb dX12_isAttached_2 (by decide) ?_
  obtain ⟨v3, h3, h⟩ := bnd h
  try dsimp only at h
  refine w_callV (L := (LM E b)) (k := 0) (As := [.int x1, .int (0 : Int32)]) (rest := []) C hW hS (show 0 < 18 by decide) cm0 kcX12 (mX12_ofSlip x1 (0 : Int32)  σ v3 h3) cwX12_ofSlip cvX12_ofSlip rfl mlX12_218 ⟨by decide, by decide⟩ rfl hl.1 (Nat.le_of_ble_eq_true rfl) ⟨by decide, by decide⟩ dX12_isAttached_3 rfl (fun H locs hW hS => ?_)
  refine lv_iconst (v := (-1 : Int32)) hx0 hb dX12_isAttached_6 (by decide) ?_
  refine lv_icmp_eq (tgt := 14) hx0 hb dX12_isAttached_7 (by decide) (fun c7 => ?_) (fun c7 => ?_)
  · rw [if_pos c7] at h
    refine lv_iconst (v := (0 : Int32)) hx0 hb dX12_isAttached_14 (by decide) ?_
    cases h
    exact w_zret C hW hS (Or.inl rfl) dX12_isAttached_15
  · rw [if_neg c7] at h
    refine lv_iconst (v := (1 : Int32)) hx0 hb dX12_isAttached_10 (by decide) ?_
    refine lv_goto (tgt := 15) hx0 hb dX12_isAttached_11 (by decide) ?_
    cases h
    exact w_zret C hW hS (Or.inr rfl) dX12_isAttached_15
def fX12_isOn (x1 : Int32) (x2 : Int32) (x3 : Int32) (σ : Mem) : Option Int32 :=
  (fX12_ofSlip x1 (0 : Int32) σ).bind fun v3 => if v3 = x2 then ((fX12_ofSlip x1 (1 : Int32) σ).bind fun v13 => if v13 = x3 then (some (1 : Int32)) else (some (0 : Int32))) else (some (0 : Int32))
set_option maxRecDepth 100000 in
set_option maxHeartbeats 4000000 in
theorem mX12_isOn {l : Launch} {E : Ev} {b : Nat} (x1 : Int32) (x2 : Int32) (x3 : Int32) (σ : Mem) (r : Int32) (h : fX12_isOn x1 x2 x3 σ = some r) : Met l yX12_isOn (tw yX12_isOn cX12_isOn 4 (some .boolean)) { frames := 1, cells := 0, slots := 0, locals := 22 } (va_Pc [.ref (b + 0), .int x1, .int x2, .int x3] (Pr l E (LM E b) σ)) (Qz E (LM E b) (some (.int r)) σ) 0 0 (La (LM E b)) := by
  refine ct_of (by decide) (Nat.le_of_ble_eq_true rfl) ?_
  intro p e s m below meth c C hW hS ls hl
  have hx0 := C.1
  have hb := C.2.1
  have hl : lv_has ls 4 [(0, .ref (b + 0)), (1, .int x1), (2, .int x2), (3, .int x3)] := hl
  unfold fX12_isOn at h
  refine lv_aload_n hx0 hb dX12_isOn_0 rfl (lv_at hl 0 rfl) ?_
  refine lv_iload_n hx0 hb dX12_isOn_1 rfl (lv_at hl 1 rfl) ?_
  refine lv_iconst (v := (0 : Int32)) hx0 hb dX12_isOn_2 (by decide) ?_
  obtain ⟨v3, h3, h⟩ := bnd h
  try dsimp only at h
  refine w_callV (L := (LM E b)) (k := 0) (As := [.int x1, .int (0 : Int32)]) (rest := []) C hW hS (show 0 < 18 by decide) cm0 kcX12 (mX12_ofSlip x1 (0 : Int32)  σ v3 h3) cwX12_ofSlip cvX12_ofSlip rfl mlX12_218 ⟨by decide, by decide⟩ rfl hl.1 (Nat.le_of_ble_eq_true rfl) ⟨by decide, by decide⟩ dX12_isOn_3 rfl (fun H locs hW hS => ?_)
  refine lv_iload_n hx0 hb dX12_isOn_6 rfl (lv_at hl 2 rfl) ?_
  refine lv_icmp_ne (tgt := 24) hx0 hb dX12_isOn_7 (by decide) (fun c7 => ?_) (fun c7 => ?_)
  · rw [if_neg c7] at h
    refine lv_iconst (v := (0 : Int32)) hx0 hb dX12_isOn_24 (by decide) ?_
    cases h
    exact w_zret C hW hS (Or.inl rfl) dX12_isOn_25
  · rw [if_pos c7] at h
    refine lv_aload_n hx0 hb dX12_isOn_10 rfl (lv_at hl 0 rfl) ?_
    refine lv_iload_n hx0 hb dX12_isOn_11 rfl (lv_at hl 1 rfl) ?_
    refine lv_iconst (v := (1 : Int32)) hx0 hb dX12_isOn_12 (by decide) ?_
    obtain ⟨v13, h13, h⟩ := bnd h
    try dsimp only at h
    refine w_callV (L := (LM E b)) (k := 0) (As := [.int x1, .int (1 : Int32)]) (rest := []) C hW hS (show 0 < 18 by decide) cm0 kcX12 (mX12_ofSlip x1 (1 : Int32)  σ v13 h13) cwX12_ofSlip cvX12_ofSlip rfl mlX12_218 ⟨by decide, by decide⟩ rfl hl.1 (Nat.le_of_ble_eq_true rfl) ⟨by decide, by decide⟩ dX12_isOn_13 rfl (fun H locs hW hS => ?_)
    refine lv_iload_n hx0 hb dX12_isOn_16 rfl (lv_at hl 3 rfl) ?_
    refine lv_icmp_ne (tgt := 24) hx0 hb dX12_isOn_17 (by decide) (fun c17 => ?_) (fun c17 => ?_)
    · rw [if_neg c17] at h
      refine lv_iconst (v := (0 : Int32)) hx0 hb dX12_isOn_24 (by decide) ?_
      cases h
      exact w_zret C hW hS (Or.inl rfl) dX12_isOn_25
    · rw [if_pos c17] at h
      refine lv_iconst (v := (1 : Int32)) hx0 hb dX12_isOn_20 (by decide) ?_
      refine lv_goto (tgt := 25) hx0 hb dX12_isOn_21 (by decide) ?_
      cases h
      exact w_zret C hW hS (Or.inr rfl) dX12_isOn_25
def fX12_slipsOn_l6 (x1 : Int32) (x2 : Int32) (x3 : Int32) : Nat → Int32 → Int32 → Mem → Option (Int32 × Int32)
  | 0, _, _, _ => none
  | n + 1, x4, x5, σ => if x3 ≤ x5 then (some (x4, x5)) else ((fX12_isOn x5 x1 x2 σ).bind fun v19 => if v19 = 0 then (fX12_slipsOn_l6 x1 x2 x3 n (x4 + (0 : Int32)) (x5 + (1 : Int32)) σ) else (fX12_slipsOn_l6 x1 x2 x3 n (x4 + (1 : Int32)) (x5 + (1 : Int32)) σ))
set_option maxRecDepth 100000 in
set_option maxHeartbeats 4000000 in
theorem bX12_slipsOn_l6 {p : Program} {l : Launch} {e : Env} {s : State} {m : MethodId} {args : Array Value} {below : List Frame} {meth : Method} {c : Code} {E : Ev} {b : Nat} (C : Cx p l s m args meth c E cX12_slipsOn 6 RX12 (some .int)) (x1 : Int32) (x2 : Int32) (x3 : Int32) (σ : Mem) {Qf : State → Prop} {q : Int32 × Int32} (hx : ∀ H locs ls, Wd E (LM E b) σ H → va_S (La (LM E b)) s.heap H locs → lv_has ls 6 [(0, .ref (b + 0)), (1, .int x1), (2, .int x2), (3, .int x3), (4, .int q.1), (5, .int q.2)] → W p l e { frames := 2, cells := 0, slots := 0, locals := 45 } s m args below meth c H locs 0 0 Qf (F0 m 39 ls [])) : ∀ (n : Nat) (x4 : Int32) (x5 : Int32), fX12_slipsOn_l6 x1 x2 x3 n x4 x5 σ = some q → ∀ (H : Heap) (locs : List Loc) (ls : Array Slot), Wd E (LM E b) σ H → va_S (La (LM E b)) s.heap H locs → lv_has ls 6 [(0, .ref (b + 0)), (1, .int x1), (2, .int x2), (3, .int x3), (4, .int x4), (5, .int x5)] → W p l e { frames := 2, cells := 0, slots := 0, locals := 45 } s m args below meth c H locs 0 0 Qf (F0 m 6 ls []) := by
  have hx0 := C.1
  have hb := C.2.1
  intro n
  induction n with
  | zero => intro x4 x5 h; simp [fX12_slipsOn_l6] at h
  | succ n ih =>
    intro x4 x5 h H locs ls hW hS hl
    unfold fX12_slipsOn_l6 at h
    refine lv_iload hx0 hb dX12_slipsOn_6 (lv_at hl 5 rfl) ?_
    refine lv_iload_n hx0 hb dX12_slipsOn_8 rfl (lv_at hl 3 rfl) ?_
    refine lv_icmp_ge (tgt := 39) hx0 hb dX12_slipsOn_9 (by decide) (fun c9 => ?_) (fun c9 => ?_)
    · rw [if_pos c9] at h
      cases h
      exact hx _ _ _ hW hS (lv_sub hl [0, 1, 2, 3, 4, 5] rfl)
    · rw [if_neg c9] at h
      refine lv_iload hx0 hb dX12_slipsOn_12 (lv_at hl 4 rfl) ?_
      refine lv_aload_n hx0 hb dX12_slipsOn_14 rfl (lv_at hl 0 rfl) ?_
      refine lv_iload hx0 hb dX12_slipsOn_15 (lv_at hl 5 rfl) ?_
      refine lv_iload_n hx0 hb dX12_slipsOn_17 rfl (lv_at hl 1 rfl) ?_
      refine lv_iload_n hx0 hb dX12_slipsOn_18 rfl (lv_at hl 2 rfl) ?_
      obtain ⟨v19, h19, h⟩ := bnd h
      try dsimp only at h
      refine w_callV (L := (LM E b)) (k := 0) (As := [.int x5, .int x1, .int x2]) (rest := [.int x4]) C hW hS (show 0 < 18 by decide) cm0 kcX12 (mX12_isOn x5 x1 x2  σ v19 h19) cwX12_isOn cvX12_isOn rfl mlX12_221 ⟨by decide, by decide⟩ rfl hl.1 (Nat.le_of_ble_eq_true rfl) ⟨by decide, by decide⟩ dX12_slipsOn_19 rfl (fun H locs hW hS => ?_)
      refine lv_if_eq (tgt := 29) hx0 hb dX12_slipsOn_22 (by decide) (fun c22 => ?_) (fun c22 => ?_)
      · rw [if_pos c22] at h
        refine lv_iconst (v := (0 : Int32)) hx0 hb dX12_slipsOn_29 (by decide) ?_
        refine lv_iadd hx0 hb dX12_slipsOn_30 ?_
        refine lv_istore (lv' := [(4, .int (x4 + (0 : Int32))), (0, .ref (b + 0)), (1, .int x1), (2, .int x2), (3, .int x3), (5, .int x5)]) hx0 hb dX12_slipsOn_31 hl (by decide) rfl (fun ls hl => ?_)
        refine lv_iinc (v := x5 + (1 : Int32)) (lv' := [(5, .int (x5 + (1 : Int32))), (4, .int (x4 + (0 : Int32))), (0, .ref (b + 0)), (1, .int x1), (2, .int x2), (3, .int x3)]) hx0 hb dX12_slipsOn_33 hl (k := 5) rfl rfl (by decide) rfl (fun ls hl => ?_)
        refine lv_goto (tgt := 6) hx0 hb dX12_slipsOn_36 (by decide) ?_
        exact ih (x4 + (0 : Int32)) (x5 + (1 : Int32)) h _ _ _ hW hS (lv_sub hl [2, 3, 4, 5, 1, 0] rfl)
      · rw [if_neg c22] at h
        refine lv_iconst (v := (1 : Int32)) hx0 hb dX12_slipsOn_25 (by decide) ?_
        refine lv_goto (tgt := 30) hx0 hb dX12_slipsOn_26 (by decide) ?_
        refine lv_iadd hx0 hb dX12_slipsOn_30 ?_
        refine lv_istore (lv' := [(4, .int (x4 + (1 : Int32))), (0, .ref (b + 0)), (1, .int x1), (2, .int x2), (3, .int x3), (5, .int x5)]) hx0 hb dX12_slipsOn_31 hl (by decide) rfl (fun ls hl => ?_)
        refine lv_iinc (v := x5 + (1 : Int32)) (lv' := [(5, .int (x5 + (1 : Int32))), (4, .int (x4 + (1 : Int32))), (0, .ref (b + 0)), (1, .int x1), (2, .int x2), (3, .int x3)]) hx0 hb dX12_slipsOn_33 hl (k := 5) rfl rfl (by decide) rfl (fun ls hl => ?_)
        refine lv_goto (tgt := 6) hx0 hb dX12_slipsOn_36 (by decide) ?_
        exact ih (x4 + (1 : Int32)) (x5 + (1 : Int32)) h _ _ _ hW hS (lv_sub hl [2, 3, 4, 5, 1, 0] rfl)
def fX12_slipsOn (x1 : Int32) (x2 : Int32) (x3 : Int32) (σ : Mem) : Option Int32 :=
  (fX12_slipsOn_l6 x1 x2 x3 FU (0 : Int32) (0 : Int32) σ).bind fun q6 => some q6.1
set_option maxRecDepth 100000 in
set_option maxHeartbeats 4000000 in
theorem mX12_slipsOn {l : Launch} {E : Ev} {b : Nat} (x1 : Int32) (x2 : Int32) (x3 : Int32) (σ : Mem) (r : Int32) (h : fX12_slipsOn x1 x2 x3 σ = some r) : Met l yX12_slipsOn (tw yX12_slipsOn cX12_slipsOn 6 (some .int)) { frames := 2, cells := 0, slots := 0, locals := 45 } (va_Pc [.ref (b + 0), .int x1, .int x2, .int x3] (Pr l E (LM E b) σ)) (Qz E (LM E b) (some (.int r)) σ) 0 0 (La (LM E b)) := by
  refine ct_of (by decide) (Nat.le_of_ble_eq_true rfl) ?_
  intro p e s m below meth c C hW hS ls hl
  have hx0 := C.1
  have hb := C.2.1
  have hl : lv_has ls 6 [(0, .ref (b + 0)), (1, .int x1), (2, .int x2), (3, .int x3)] := hl
  unfold fX12_slipsOn at h
  refine lv_iconst (v := (0 : Int32)) hx0 hb dX12_slipsOn_0 (by decide) ?_
  refine lv_istore (lv' := [(4, .int (0 : Int32)), (0, .ref (b + 0)), (1, .int x1), (2, .int x2), (3, .int x3)]) hx0 hb dX12_slipsOn_1 hl (by decide) rfl (fun ls hl => ?_)
  refine lv_iconst (v := (0 : Int32)) hx0 hb dX12_slipsOn_3 (by decide) ?_
  refine lv_istore (lv' := [(5, .int (0 : Int32)), (4, .int (0 : Int32)), (0, .ref (b + 0)), (1, .int x1), (2, .int x2), (3, .int x3)]) hx0 hb dX12_slipsOn_4 hl (by decide) rfl (fun ls hl => ?_)
  obtain ⟨q6, h6, h⟩ := bnd h
  try dsimp only at h
  refine bX12_slipsOn_l6 C x1 x2 x3  σ (q := q6) ?_ FU (0 : Int32) (0 : Int32) h6 _ _ _ hW hS (lv_sub hl [2, 3, 4, 5, 1, 0] rfl)
  intro H locs ls hW hS hl
  refine lv_iload hx0 hb dX12_slipsOn_39 (lv_at hl 4 rfl) ?_
  cases h
  exact w_iret C hW hS dX12_slipsOn_41
def fX12_allOn (x1 : Int32) (x2 : Int32) (σ : Mem) : Option Int32 :=
  if (0 : Int32) < 0 ∨ lm 3 ≤ (0 : Int32).toNatClampNeg then none else (fX12_slipsOn x1 x2 (σ 3 (0 : Int32).toNatClampNeg) σ).bind fun v9 => some v9
set_option maxRecDepth 100000 in
set_option maxHeartbeats 4000000 in
theorem mX12_allOn {l : Launch} {E : Ev} {b : Nat} (x1 : Int32) (x2 : Int32) (σ : Mem) (r : Int32) (h : fX12_allOn x1 x2 σ = some r) : Met l yX12_allOn (tw yX12_allOn cX12_allOn 3 (some .int)) { frames := 3, cells := 0, slots := 0, locals := 70 } (va_Pc [.ref (b + 0), .int x1, .int x2] (Pr l E (LM E b) σ)) (Qz E (LM E b) (some (.int r)) σ) 0 0 (La (LM E b)) := by
  refine ct_of (by decide) (Nat.le_of_ble_eq_true rfl) ?_
  intro p e s m below meth c C hW hS ls hl
  have hx0 := C.1
  have hb := C.2.1
  have hl : lv_has ls 3 [(0, .ref (b + 0)), (1, .int x1), (2, .int x2)] := hl
  unfold fX12_allOn at h
  refine lv_aload_n hx0 hb dX12_allOn_0 rfl (lv_at hl 0 rfl) ?_
  refine lv_iload_n hx0 hb dX12_allOn_1 rfl (lv_at hl 1 rfl) ?_
  refine lv_iload_n hx0 hb dX12_allOn_2 rfl (lv_at hl 2 rfl) ?_
  refine lv_aload_n hx0 hb dX12_allOn_3 rfl (lv_at hl 0 rfl) ?_
  refine gtX12_5 C hW flX12_20 dX12_allOn_4 ?_
  refine lv_iconst (v := (0 : Int32)) hx0 hb dX12_allOn_7 (by decide) ?_
  by_cases z8 : (0 : Int32) < 0 ∨ lm 3 ≤ (0 : Int32).toNatClampNeg
  · rw [if_pos z8] at h; cases h
  rw [if_neg z8] at h
  refine ldIm (k := 3) C hW (by decide) z8 dX12_allOn_8 ?_
  obtain ⟨v9, h9, h⟩ := bnd h
  try dsimp only at h
  refine w_callV (L := (LM E b)) (k := 0) (As := [.int x1, .int x2, .int (σ 3 (0 : Int32).toNatClampNeg)]) (rest := []) C hW hS (show 0 < 18 by decide) cm0 kcX12 (mX12_slipsOn x1 x2 (σ 3 (0 : Int32).toNatClampNeg)  σ v9 h9) cwX12_slipsOn cvX12_slipsOn rfl mlX12_225 ⟨by decide, by decide⟩ rfl hl.1 (Nat.le_of_ble_eq_true rfl) ⟨by decide, by decide⟩ dX12_allOn_9 rfl (fun H locs hW hS => ?_)
  cases h
  exact w_iret C hW hS dX12_allOn_12
def fX12_attached_l4 : Nat → Int32 → Int32 → Mem → Option (Int32 × Int32)
  | 0, _, _, _ => none
  | n + 1, x1, x2, σ => if (0 : Int32) < 0 ∨ lm 3 ≤ (0 : Int32).toNatClampNeg then none else if (σ 3 (0 : Int32).toNatClampNeg) ≤ x2 then (some (x1, x2)) else ((fX12_isAttached x2 σ).bind fun v17 => if v17 = 0 then (fX12_attached_l4 n (x1 + (0 : Int32)) (x2 + (1 : Int32)) σ) else (fX12_attached_l4 n (x1 + (1 : Int32)) (x2 + (1 : Int32)) σ))
set_option maxRecDepth 100000 in
set_option maxHeartbeats 4000000 in
theorem bX12_attached_l4 {p : Program} {l : Launch} {e : Env} {s : State} {m : MethodId} {args : Array Value} {below : List Frame} {meth : Method} {c : Code} {E : Ev} {b : Nat} (C : Cx p l s m args meth c E cX12_attached 3 RX12 (some .int)) (σ : Mem) {Qf : State → Prop} {q : Int32 × Int32} (hx : ∀ H locs ls, Wd E (LM E b) σ H → va_S (La (LM E b)) s.heap H locs → lv_has ls 3 [(0, .ref (b + 0)), (1, .int q.1), (2, .int q.2)] → W p l e { frames := 2, cells := 0, slots := 0, locals := 43 } s m args below meth c H locs 0 0 Qf (F0 m 36 ls [])) : ∀ (n : Nat) (x1 : Int32) (x2 : Int32), fX12_attached_l4 n x1 x2 σ = some q → ∀ (H : Heap) (locs : List Loc) (ls : Array Slot), Wd E (LM E b) σ H → va_S (La (LM E b)) s.heap H locs → lv_has ls 3 [(0, .ref (b + 0)), (1, .int x1), (2, .int x2)] → W p l e { frames := 2, cells := 0, slots := 0, locals := 43 } s m args below meth c H locs 0 0 Qf (F0 m 4 ls []) := by
  have hx0 := C.1
  have hb := C.2.1
  intro n
  induction n with
  | zero => intro x1 x2 h; simp [fX12_attached_l4] at h
  | succ n ih =>
    intro x1 x2 h H locs ls hW hS hl
    unfold fX12_attached_l4 at h
    refine lv_iload_n hx0 hb dX12_attached_4 rfl (lv_at hl 2 rfl) ?_
    refine lv_aload_n hx0 hb dX12_attached_5 rfl (lv_at hl 0 rfl) ?_
    refine gtX12_5 C hW flX12_20 dX12_attached_6 ?_
    refine lv_iconst (v := (0 : Int32)) hx0 hb dX12_attached_9 (by decide) ?_
    by_cases z10 : (0 : Int32) < 0 ∨ lm 3 ≤ (0 : Int32).toNatClampNeg
    · rw [if_pos z10] at h; cases h
    rw [if_neg z10] at h
    refine ldIm (k := 3) C hW (by decide) z10 dX12_attached_10 ?_
    refine lv_icmp_ge (tgt := 36) hx0 hb dX12_attached_11 (by decide) (fun c11 => ?_) (fun c11 => ?_)
    · rw [if_pos c11] at h
      cases h
      exact hx _ _ _ hW hS (lv_sub hl [0, 1, 2] rfl)
    · rw [if_neg c11] at h
      refine lv_iload_n hx0 hb dX12_attached_14 rfl (lv_at hl 1 rfl) ?_
      refine lv_aload_n hx0 hb dX12_attached_15 rfl (lv_at hl 0 rfl) ?_
      refine lv_iload_n hx0 hb dX12_attached_16 rfl (lv_at hl 2 rfl) ?_
      obtain ⟨v17, h17, h⟩ := bnd h
      try dsimp only at h
      refine w_callV (L := (LM E b)) (k := 0) (As := [.int x2]) (rest := [.int x1]) C hW hS (show 0 < 18 by decide) cm0 kcX12 (mX12_isAttached x2  σ v17 h17) cwX12_isAttached cvX12_isAttached rfl mlX12_229 ⟨by decide, by decide⟩ rfl hl.1 (Nat.le_of_ble_eq_true rfl) ⟨by decide, by decide⟩ dX12_attached_17 rfl (fun H locs hW hS => ?_)
      refine lv_if_eq (tgt := 27) hx0 hb dX12_attached_20 (by decide) (fun c20 => ?_) (fun c20 => ?_)
      · rw [if_pos c20] at h
        refine lv_iconst (v := (0 : Int32)) hx0 hb dX12_attached_27 (by decide) ?_
        refine lv_iadd hx0 hb dX12_attached_28 ?_
        refine lv_istore_n (lv' := [(1, .int (x1 + (0 : Int32))), (0, .ref (b + 0)), (2, .int x2)]) hx0 hb dX12_attached_29 rfl hl (by decide) rfl (fun ls hl => ?_)
        refine lv_iinc (v := x2 + (1 : Int32)) (lv' := [(2, .int (x2 + (1 : Int32))), (1, .int (x1 + (0 : Int32))), (0, .ref (b + 0))]) hx0 hb dX12_attached_30 hl (k := 2) rfl rfl (by decide) rfl (fun ls hl => ?_)
        refine lv_goto (tgt := 4) hx0 hb dX12_attached_33 (by decide) ?_
        exact ih (x1 + (0 : Int32)) (x2 + (1 : Int32)) h _ _ _ hW hS (lv_sub hl [2, 1, 0] rfl)
      · rw [if_neg c20] at h
        refine lv_iconst (v := (1 : Int32)) hx0 hb dX12_attached_23 (by decide) ?_
        refine lv_goto (tgt := 28) hx0 hb dX12_attached_24 (by decide) ?_
        refine lv_iadd hx0 hb dX12_attached_28 ?_
        refine lv_istore_n (lv' := [(1, .int (x1 + (1 : Int32))), (0, .ref (b + 0)), (2, .int x2)]) hx0 hb dX12_attached_29 rfl hl (by decide) rfl (fun ls hl => ?_)
        refine lv_iinc (v := x2 + (1 : Int32)) (lv' := [(2, .int (x2 + (1 : Int32))), (1, .int (x1 + (1 : Int32))), (0, .ref (b + 0))]) hx0 hb dX12_attached_30 hl (k := 2) rfl rfl (by decide) rfl (fun ls hl => ?_)
        refine lv_goto (tgt := 4) hx0 hb dX12_attached_33 (by decide) ?_
        exact ih (x1 + (1 : Int32)) (x2 + (1 : Int32)) h _ _ _ hW hS (lv_sub hl [2, 1, 0] rfl)
def fX12_attached (σ : Mem) : Option Int32 :=
  (fX12_attached_l4 FU (0 : Int32) (0 : Int32) σ).bind fun q4 => some q4.1
set_option maxRecDepth 100000 in
set_option maxHeartbeats 4000000 in
theorem mX12_attached {l : Launch} {E : Ev} {b : Nat} (σ : Mem) (r : Int32) (h : fX12_attached σ = some r) : Met l yX12_attached (tw yX12_attached cX12_attached 3 (some .int)) { frames := 2, cells := 0, slots := 0, locals := 43 } (va_Pc [.ref (b + 0)] (Pr l E (LM E b) σ)) (Qz E (LM E b) (some (.int r)) σ) 0 0 (La (LM E b)) := by
  refine ct_of (by decide) (Nat.le_of_ble_eq_true rfl) ?_
  intro p e s m below meth c C hW hS ls hl
  have hx0 := C.1
  have hb := C.2.1
  have hl : lv_has ls 3 [(0, .ref (b + 0))] := hl
  unfold fX12_attached at h
  refine lv_iconst (v := (0 : Int32)) hx0 hb dX12_attached_0 (by decide) ?_
  refine lv_istore_n (lv' := [(1, .int (0 : Int32)), (0, .ref (b + 0))]) hx0 hb dX12_attached_1 rfl hl (by decide) rfl (fun ls hl => ?_)
  refine lv_iconst (v := (0 : Int32)) hx0 hb dX12_attached_2 (by decide) ?_
  refine lv_istore_n (lv' := [(2, .int (0 : Int32)), (1, .int (0 : Int32)), (0, .ref (b + 0))]) hx0 hb dX12_attached_3 rfl hl (by decide) rfl (fun ls hl => ?_)
  obtain ⟨q4, h4, h⟩ := bnd h
  try dsimp only at h
  refine bX12_attached_l4 C   σ (q := q4) ?_ FU (0 : Int32) (0 : Int32) h4 _ _ _ hW hS (lv_sub hl [2, 1, 0] rfl)
  intro H locs ls hW hS hl
  refine lv_iload_n hx0 hb dX12_attached_36 rfl (lv_at hl 1 rfl) ?_
  cases h
  exact w_iret C hW hS dX12_attached_37
def fX12_isSide (x0 : Int32) (σ : Mem) : Option Int32 :=
  if x0 = 0 then (some (1 : Int32)) else (if x0 = (1 : Int32) then (some (1 : Int32)) else (some (0 : Int32)))
set_option maxRecDepth 100000 in
set_option maxHeartbeats 4000000 in
theorem mX12_isSide {l : Launch} {E : Ev} {b : Nat} (x0 : Int32) (σ : Mem) (r : Int32) (h : fX12_isSide x0 σ = some r) : Met l yX12_isSide (tw yX12_isSide cX12_isSide 1 (some .boolean)) { frames := 0, cells := 0, slots := 0, locals := 0 } (va_Pc [.int x0] (Pr l E (LM E b) σ)) (Qz E (LM E b) (some (.int r)) σ) 0 0 (La (LM E b)) := by
  refine ct_of (by decide) (Nat.le_of_ble_eq_true rfl) ?_
  intro p e s m below meth c C hW hS ls hl
  have hx0 := C.1
  have hb := C.2.1
  have hl : lv_has ls 1 [(0, .int x0)] := hl
  unfold fX12_isSide at h
  refine lv_iload_n hx0 hb dX12_isSide_0 rfl (lv_at hl 0 rfl) ?_
  refine lv_if_eq (tgt := 9) hx0 hb dX12_isSide_1 (by decide) (fun c1 => ?_) (fun c1 => ?_)
  · rw [if_pos c1] at h
    refine lv_iconst (v := (1 : Int32)) hx0 hb dX12_isSide_9 (by decide) ?_
    refine lv_goto (tgt := 14) hx0 hb dX12_isSide_10 (by decide) ?_
    cases h
    exact w_zret C hW hS (Or.inr rfl) dX12_isSide_14
  · rw [if_neg c1] at h
    refine lv_iload_n hx0 hb dX12_isSide_4 rfl (lv_at hl 0 rfl) ?_
    refine lv_iconst (v := (1 : Int32)) hx0 hb dX12_isSide_5 (by decide) ?_
    refine lv_icmp_ne (tgt := 13) hx0 hb dX12_isSide_6 (by decide) (fun c6 => ?_) (fun c6 => ?_)
    · rw [if_neg c6] at h
      refine lv_iconst (v := (0 : Int32)) hx0 hb dX12_isSide_13 (by decide) ?_
      cases h
      exact w_zret C hW hS (Or.inl rfl) dX12_isSide_14
    · rw [if_pos c6] at h
      refine lv_iconst (v := (1 : Int32)) hx0 hb dX12_isSide_9 (by decide) ?_
      refine lv_goto (tgt := 14) hx0 hb dX12_isSide_10 (by decide) ?_
      cases h
      exact w_zret C hW hS (Or.inr rfl) dX12_isSide_14
def fX12_comes (x1 : Int32) (x2 : Int32) (x3 : Int32) (x4 : Int32) (σ : Mem) : Option Mem :=
  if ((4 : Int32) * (σ 0 17)) < 0 ∨ lm 8 ≤ ((4 : Int32) * (σ 0 17)).toNatClampNeg then none else if (((4 : Int32) * ((up σ 8 ((4 : Int32) * (σ 0 17)).toNatClampNeg x1) 0 17)) + (1 : Int32)) < 0 ∨ lm 8 ≤ (((4 : Int32) * ((up σ 8 ((4 : Int32) * (σ 0 17)).toNatClampNeg x1) 0 17)) + (1 : Int32)).toNatClampNeg then none else if (((4 : Int32) * ((up (up σ 8 ((4 : Int32) * (σ 0 17)).toNatClampNeg x1) 8 (((4 : Int32) * ((up σ 8 ((4 : Int32) * (σ 0 17)).toNatClampNeg x1) 0 17)) + (1 : Int32)).toNatClampNeg x2) 0 17)) + (2 : Int32)) < 0 ∨ lm 8 ≤ (((4 : Int32) * ((up (up σ 8 ((4 : Int32) * (σ 0 17)).toNatClampNeg x1) 8 (((4 : Int32) * ((up σ 8 ((4 : Int32) * (σ 0 17)).toNatClampNeg x1) 0 17)) + (1 : Int32)).toNatClampNeg x2) 0 17)) + (2 : Int32)).toNatClampNeg then none else if (((4 : Int32) * ((up (up (up σ 8 ((4 : Int32) * (σ 0 17)).toNatClampNeg x1) 8 (((4 : Int32) * ((up σ 8 ((4 : Int32) * (σ 0 17)).toNatClampNeg x1) 0 17)) + (1 : Int32)).toNatClampNeg x2) 8 (((4 : Int32) * ((up (up σ 8 ((4 : Int32) * (σ 0 17)).toNatClampNeg x1) 8 (((4 : Int32) * ((up σ 8 ((4 : Int32) * (σ 0 17)).toNatClampNeg x1) 0 17)) + (1 : Int32)).toNatClampNeg x2) 0 17)) + (2 : Int32)).toNatClampNeg x3) 0 17)) + (3 : Int32)) < 0 ∨ lm 8 ≤ (((4 : Int32) * ((up (up (up σ 8 ((4 : Int32) * (σ 0 17)).toNatClampNeg x1) 8 (((4 : Int32) * ((up σ 8 ((4 : Int32) * (σ 0 17)).toNatClampNeg x1) 0 17)) + (1 : Int32)).toNatClampNeg x2) 8 (((4 : Int32) * ((up (up σ 8 ((4 : Int32) * (σ 0 17)).toNatClampNeg x1) 8 (((4 : Int32) * ((up σ 8 ((4 : Int32) * (σ 0 17)).toNatClampNeg x1) 0 17)) + (1 : Int32)).toNatClampNeg x2) 0 17)) + (2 : Int32)).toNatClampNeg x3) 0 17)) + (3 : Int32)).toNatClampNeg then none else some (up (up (up (up (up σ 8 ((4 : Int32) * (σ 0 17)).toNatClampNeg x1) 8 (((4 : Int32) * ((up σ 8 ((4 : Int32) * (σ 0 17)).toNatClampNeg x1) 0 17)) + (1 : Int32)).toNatClampNeg x2) 8 (((4 : Int32) * ((up (up σ 8 ((4 : Int32) * (σ 0 17)).toNatClampNeg x1) 8 (((4 : Int32) * ((up σ 8 ((4 : Int32) * (σ 0 17)).toNatClampNeg x1) 0 17)) + (1 : Int32)).toNatClampNeg x2) 0 17)) + (2 : Int32)).toNatClampNeg x3) 8 (((4 : Int32) * ((up (up (up σ 8 ((4 : Int32) * (σ 0 17)).toNatClampNeg x1) 8 (((4 : Int32) * ((up σ 8 ((4 : Int32) * (σ 0 17)).toNatClampNeg x1) 0 17)) + (1 : Int32)).toNatClampNeg x2) 8 (((4 : Int32) * ((up (up σ 8 ((4 : Int32) * (σ 0 17)).toNatClampNeg x1) 8 (((4 : Int32) * ((up σ 8 ((4 : Int32) * (σ 0 17)).toNatClampNeg x1) 0 17)) + (1 : Int32)).toNatClampNeg x2) 0 17)) + (2 : Int32)).toNatClampNeg x3) 0 17)) + (3 : Int32)).toNatClampNeg x4) 0 17 (((up (up (up (up σ 8 ((4 : Int32) * (σ 0 17)).toNatClampNeg x1) 8 (((4 : Int32) * ((up σ 8 ((4 : Int32) * (σ 0 17)).toNatClampNeg x1) 0 17)) + (1 : Int32)).toNatClampNeg x2) 8 (((4 : Int32) * ((up (up σ 8 ((4 : Int32) * (σ 0 17)).toNatClampNeg x1) 8 (((4 : Int32) * ((up σ 8 ((4 : Int32) * (σ 0 17)).toNatClampNeg x1) 0 17)) + (1 : Int32)).toNatClampNeg x2) 0 17)) + (2 : Int32)).toNatClampNeg x3) 8 (((4 : Int32) * ((up (up (up σ 8 ((4 : Int32) * (σ 0 17)).toNatClampNeg x1) 8 (((4 : Int32) * ((up σ 8 ((4 : Int32) * (σ 0 17)).toNatClampNeg x1) 0 17)) + (1 : Int32)).toNatClampNeg x2) 8 (((4 : Int32) * ((up (up σ 8 ((4 : Int32) * (σ 0 17)).toNatClampNeg x1) 8 (((4 : Int32) * ((up σ 8 ((4 : Int32) * (σ 0 17)).toNatClampNeg x1) 0 17)) + (1 : Int32)).toNatClampNeg x2) 0 17)) + (2 : Int32)).toNatClampNeg x3) 0 17)) + (3 : Int32)).toNatClampNeg x4) 0 17) + (1 : Int32)))
set_option maxRecDepth 100000 in
set_option maxHeartbeats 4000000 in
theorem mX12_comes {l : Launch} {E : Ev} {b : Nat} (x1 : Int32) (x2 : Int32) (x3 : Int32) (x4 : Int32) (σ : Mem) (r : Mem) (h : fX12_comes x1 x2 x3 x4 σ = some r) : Met l yX12_comes (tw yX12_comes cX12_comes 5 none) { frames := 0, cells := 0, slots := 0, locals := 0 } (va_Pc [.ref (b + 0), .int x1, .int x2, .int x3, .int x4] (Pr l E (LM E b) σ)) (Qz E (LM E b) none r) 0 0 (La (LM E b)) := by
  refine ct_of (by decide) (Nat.le_of_ble_eq_true rfl) ?_
  intro p e s m below meth c C hW hS ls hl
  have hx0 := C.1
  have hb := C.2.1
  have hl : lv_has ls 5 [(0, .ref (b + 0)), (1, .int x1), (2, .int x2), (3, .int x3), (4, .int x4)] := hl
  unfold fX12_comes at h
  refine lv_aload_n hx0 hb dX12_comes_0 rfl (lv_at hl 0 rfl) ?_
  refine gtX12_16 C hW flX12_36 dX12_comes_1 ?_
  refine lv_iconst (v := (4 : Int32)) hx0 hb dX12_comes_4 (by decide) ?_
  refine lv_aload_n hx0 hb dX12_comes_5 rfl (lv_at hl 0 rfl) ?_
  refine gtX12_17 C hW flX12_232 dX12_comes_6 ?_
  refine lv_imul hx0 hb dX12_comes_9 ?_
  refine lv_iload_n hx0 hb dX12_comes_10 rfl (lv_at hl 1 rfl) ?_
  by_cases z11 : ((4 : Int32) * (σ 0 17)) < 0 ∨ lm 8 ≤ ((4 : Int32) * (σ 0 17)).toNatClampNeg
  · rw [if_pos z11] at h; cases h
  rw [if_neg z11] at h
  refine saIm (k := 8) C hW hS (by decide) z11 dX12_comes_11 (fun H locs hW hS => ?_)
  refine lv_aload_n hx0 hb dX12_comes_12 rfl (lv_at hl 0 rfl) ?_
  refine gtX12_16 C hW flX12_36 dX12_comes_13 ?_
  refine lv_iconst (v := (4 : Int32)) hx0 hb dX12_comes_16 (by decide) ?_
  refine lv_aload_n hx0 hb dX12_comes_17 rfl (lv_at hl 0 rfl) ?_
  refine gtX12_17 C hW flX12_232 dX12_comes_18 ?_
  refine lv_imul hx0 hb dX12_comes_21 ?_
  refine lv_iconst (v := (1 : Int32)) hx0 hb dX12_comes_22 (by decide) ?_
  refine lv_iadd hx0 hb dX12_comes_23 ?_
  refine lv_iload_n hx0 hb dX12_comes_24 rfl (lv_at hl 2 rfl) ?_
  by_cases z25 : (((4 : Int32) * ((up σ 8 ((4 : Int32) * (σ 0 17)).toNatClampNeg x1) 0 17)) + (1 : Int32)) < 0 ∨ lm 8 ≤ (((4 : Int32) * ((up σ 8 ((4 : Int32) * (σ 0 17)).toNatClampNeg x1) 0 17)) + (1 : Int32)).toNatClampNeg
  · rw [if_pos z25] at h; cases h
  rw [if_neg z25] at h
  refine saIm (k := 8) C hW hS (by decide) z25 dX12_comes_25 (fun H locs hW hS => ?_)
  refine lv_aload_n hx0 hb dX12_comes_26 rfl (lv_at hl 0 rfl) ?_
  refine gtX12_16 C hW flX12_36 dX12_comes_27 ?_
  refine lv_iconst (v := (4 : Int32)) hx0 hb dX12_comes_30 (by decide) ?_
  refine lv_aload_n hx0 hb dX12_comes_31 rfl (lv_at hl 0 rfl) ?_
  refine gtX12_17 C hW flX12_232 dX12_comes_32 ?_
  refine lv_imul hx0 hb dX12_comes_35 ?_
  refine lv_iconst (v := (2 : Int32)) hx0 hb dX12_comes_36 (by decide) ?_
  refine lv_iadd hx0 hb dX12_comes_37 ?_
  refine lv_iload_n hx0 hb dX12_comes_38 rfl (lv_at hl 3 rfl) ?_
  by_cases z39 : (((4 : Int32) * ((up (up σ 8 ((4 : Int32) * (σ 0 17)).toNatClampNeg x1) 8 (((4 : Int32) * ((up σ 8 ((4 : Int32) * (σ 0 17)).toNatClampNeg x1) 0 17)) + (1 : Int32)).toNatClampNeg x2) 0 17)) + (2 : Int32)) < 0 ∨ lm 8 ≤ (((4 : Int32) * ((up (up σ 8 ((4 : Int32) * (σ 0 17)).toNatClampNeg x1) 8 (((4 : Int32) * ((up σ 8 ((4 : Int32) * (σ 0 17)).toNatClampNeg x1) 0 17)) + (1 : Int32)).toNatClampNeg x2) 0 17)) + (2 : Int32)).toNatClampNeg
  · rw [if_pos z39] at h; cases h
  rw [if_neg z39] at h
  refine saIm (k := 8) C hW hS (by decide) z39 dX12_comes_39 (fun H locs hW hS => ?_)
  refine lv_aload_n hx0 hb dX12_comes_40 rfl (lv_at hl 0 rfl) ?_
  refine gtX12_16 C hW flX12_36 dX12_comes_41 ?_
  refine lv_iconst (v := (4 : Int32)) hx0 hb dX12_comes_44 (by decide) ?_
  refine lv_aload_n hx0 hb dX12_comes_45 rfl (lv_at hl 0 rfl) ?_
  refine gtX12_17 C hW flX12_232 dX12_comes_46 ?_
  refine lv_imul hx0 hb dX12_comes_49 ?_
  refine lv_iconst (v := (3 : Int32)) hx0 hb dX12_comes_50 (by decide) ?_
  refine lv_iadd hx0 hb dX12_comes_51 ?_
  refine lv_iload hx0 hb dX12_comes_52 (lv_at hl 4 rfl) ?_
  by_cases z54 : (((4 : Int32) * ((up (up (up σ 8 ((4 : Int32) * (σ 0 17)).toNatClampNeg x1) 8 (((4 : Int32) * ((up σ 8 ((4 : Int32) * (σ 0 17)).toNatClampNeg x1) 0 17)) + (1 : Int32)).toNatClampNeg x2) 8 (((4 : Int32) * ((up (up σ 8 ((4 : Int32) * (σ 0 17)).toNatClampNeg x1) 8 (((4 : Int32) * ((up σ 8 ((4 : Int32) * (σ 0 17)).toNatClampNeg x1) 0 17)) + (1 : Int32)).toNatClampNeg x2) 0 17)) + (2 : Int32)).toNatClampNeg x3) 0 17)) + (3 : Int32)) < 0 ∨ lm 8 ≤ (((4 : Int32) * ((up (up (up σ 8 ((4 : Int32) * (σ 0 17)).toNatClampNeg x1) 8 (((4 : Int32) * ((up σ 8 ((4 : Int32) * (σ 0 17)).toNatClampNeg x1) 0 17)) + (1 : Int32)).toNatClampNeg x2) 8 (((4 : Int32) * ((up (up σ 8 ((4 : Int32) * (σ 0 17)).toNatClampNeg x1) 8 (((4 : Int32) * ((up σ 8 ((4 : Int32) * (σ 0 17)).toNatClampNeg x1) 0 17)) + (1 : Int32)).toNatClampNeg x2) 0 17)) + (2 : Int32)).toNatClampNeg x3) 0 17)) + (3 : Int32)).toNatClampNeg
  · rw [if_pos z54] at h; cases h
  rw [if_neg z54] at h
  refine saIm (k := 8) C hW hS (by decide) z54 dX12_comes_54 (fun H locs hW hS => ?_)
  refine lv_aload_n hx0 hb dX12_comes_55 rfl (lv_at hl 0 rfl) ?_
  refine lv_dup hx0 hb dX12_comes_56 rfl ?_
  refine gtX12_17 C hW flX12_232 dX12_comes_57 ?_
  refine lv_iconst (v := (1 : Int32)) hx0 hb dX12_comes_60 (by decide) ?_
  refine lv_iadd hx0 hb dX12_comes_61 ?_
  refine ptX12_17 C hW hS flX12_232 dX12_comes_62 (fun H locs hW hS => ?_)
  cases h
  exact w_vret C hW hS dX12_comes_65
def fX12_laysOrder_l56 (x1 : Int32) (x2 : Int32) : Nat → Int32 → Mem → Option (Int32 × Mem)
  | 0, _, _ => none
  | n + 1, x3, σ => (fX12_ofSlip x2 (2 : Int32) σ).bind fun v60 => if v60 ≤ x3 then (some (x3, σ)) else ((fX12_isOn x2 (x1 / (2 : Int32)) (x1 - x1 / (2 : Int32) * (2 : Int32)) σ).bind fun v74 => if v74 = 0 then (some (x3, σ)) else ((fX12_comes (x1 / (2 : Int32)) (x1 - x1 / (2 : Int32) * (2 : Int32)) x2 x3 σ).bind fun v89 => fX12_laysOrder_l56 x1 x2 n (x3 + (1 : Int32)) v89))
set_option maxRecDepth 100000 in
set_option maxHeartbeats 4000000 in
theorem bX12_laysOrder_l56 {p : Program} {l : Launch} {e : Env} {s : State} {m : MethodId} {args : Array Value} {below : List Frame} {meth : Method} {c : Code} {E : Ev} {b : Nat} (C : Cx p l s m args meth c E cX12_laysOrder 4 RX12 none) (x1 : Int32) (x2 : Int32) {Qf : State → Prop} {q : Int32 × Mem} (hx : ∀ H locs ls, Wd E (LM E b) q.2 H → va_S (La (LM E b)) s.heap H locs → lv_has ls 4 [(0, .ref (b + 0)), (1, .int x1), (2, .int x2), (3, .int q.1)] → W p l e { frames := 2, cells := 0, slots := 0, locals := 45 } s m args below meth c H locs 0 0 Qf (F0 m 98 ls [])) : ∀ (n : Nat) (x3 : Int32) (σ : Mem), fX12_laysOrder_l56 x1 x2 n x3 σ = some q → ∀ (H : Heap) (locs : List Loc) (ls : Array Slot), Wd E (LM E b) σ H → va_S (La (LM E b)) s.heap H locs → lv_has ls 4 [(0, .ref (b + 0)), (1, .int x1), (2, .int x2), (3, .int x3)] → W p l e { frames := 2, cells := 0, slots := 0, locals := 45 } s m args below meth c H locs 0 0 Qf (F0 m 56 ls []) := by
  have hx0 := C.1
  have hb := C.2.1
  intro n
  induction n with
  | zero => intro x3 σ h; simp [fX12_laysOrder_l56] at h
  | succ n ih =>
    intro x3 σ h H locs ls hW hS hl
    unfold fX12_laysOrder_l56 at h
    refine lv_iload_n hx0 hb dX12_laysOrder_56 rfl (lv_at hl 3 rfl) ?_
    refine lv_aload_n hx0 hb dX12_laysOrder_57 rfl (lv_at hl 0 rfl) ?_
    refine lv_iload_n hx0 hb dX12_laysOrder_58 rfl (lv_at hl 2 rfl) ?_
    refine lv_iconst (v := (2 : Int32)) hx0 hb dX12_laysOrder_59 (by decide) ?_
    obtain ⟨v60, h60, h⟩ := bnd h
    try dsimp only at h
    refine w_callV (L := (LM E b)) (k := 0) (As := [.int x2, .int (2 : Int32)]) (rest := [.int x3]) C hW hS (show 0 < 18 by decide) cm0 kcX12 (mX12_ofSlip x2 (2 : Int32)  σ v60 h60) cwX12_ofSlip cvX12_ofSlip rfl mlX12_218 ⟨by decide, by decide⟩ rfl hl.1 (Nat.le_of_ble_eq_true rfl) ⟨by decide, by decide⟩ dX12_laysOrder_60 rfl (fun H locs hW hS => ?_)
    refine lv_icmp_ge (tgt := 98) hx0 hb dX12_laysOrder_63 (by decide) (fun c63 => ?_) (fun c63 => ?_)
    · rw [if_pos c63] at h
      cases h
      exact hx _ _ _ hW hS (lv_sub hl [0, 1, 2, 3] rfl)
    · rw [if_neg c63] at h
      refine lv_aload_n hx0 hb dX12_laysOrder_66 rfl (lv_at hl 0 rfl) ?_
      refine lv_iload_n hx0 hb dX12_laysOrder_67 rfl (lv_at hl 2 rfl) ?_
      refine lv_iload_n hx0 hb dX12_laysOrder_68 rfl (lv_at hl 1 rfl) ?_
      refine lv_iconst (v := (2 : Int32)) hx0 hb dX12_laysOrder_69 (by decide) ?_
      refine lv_idiv hx0 hb dX12_laysOrder_70 (by decide) ?_
      refine lv_iload_n hx0 hb dX12_laysOrder_71 rfl (lv_at hl 1 rfl) ?_
      refine lv_iconst (v := (2 : Int32)) hx0 hb dX12_laysOrder_72 (by decide) ?_
      refine lv_irem hx0 hb dX12_laysOrder_73 (by decide) ?_
      obtain ⟨v74, h74, h⟩ := bnd h
      try dsimp only at h
      refine w_callV (L := (LM E b)) (k := 0) (As := [.int x2, .int (x1 / (2 : Int32)), .int (x1 - x1 / (2 : Int32) * (2 : Int32))]) (rest := []) C hW hS (show 0 < 18 by decide) cm0 kcX12 (mX12_isOn x2 (x1 / (2 : Int32)) (x1 - x1 / (2 : Int32) * (2 : Int32))  σ v74 h74) cwX12_isOn cvX12_isOn rfl mlX12_221 ⟨by decide, by decide⟩ rfl hl.1 (Nat.le_of_ble_eq_true rfl) ⟨by decide, by decide⟩ dX12_laysOrder_74 rfl (fun H locs hW hS => ?_)
      refine lv_if_eq (tgt := 98) hx0 hb dX12_laysOrder_77 (by decide) (fun c77 => ?_) (fun c77 => ?_)
      · rw [if_pos c77] at h
        cases h
        exact hx _ _ _ hW hS (lv_sub hl [0, 1, 2, 3] rfl)
      · rw [if_neg c77] at h
        refine lv_aload_n hx0 hb dX12_laysOrder_80 rfl (lv_at hl 0 rfl) ?_
        refine lv_iload_n hx0 hb dX12_laysOrder_81 rfl (lv_at hl 1 rfl) ?_
        refine lv_iconst (v := (2 : Int32)) hx0 hb dX12_laysOrder_82 (by decide) ?_
        refine lv_idiv hx0 hb dX12_laysOrder_83 (by decide) ?_
        refine lv_iload_n hx0 hb dX12_laysOrder_84 rfl (lv_at hl 1 rfl) ?_
        refine lv_iconst (v := (2 : Int32)) hx0 hb dX12_laysOrder_85 (by decide) ?_
        refine lv_irem hx0 hb dX12_laysOrder_86 (by decide) ?_
        refine lv_iload_n hx0 hb dX12_laysOrder_87 rfl (lv_at hl 2 rfl) ?_
        refine lv_iload_n hx0 hb dX12_laysOrder_88 rfl (lv_at hl 3 rfl) ?_
        obtain ⟨v89, h89, h⟩ := bnd h
        try dsimp only at h
        refine w_callV (L := (LM E b)) (k := 0) (As := [.int (x1 / (2 : Int32)), .int (x1 - x1 / (2 : Int32) * (2 : Int32)), .int x2, .int x3]) (rest := []) C hW hS (show 0 < 18 by decide) cm0 kcX12 (mX12_comes (x1 / (2 : Int32)) (x1 - x1 / (2 : Int32) * (2 : Int32)) x2 x3  σ v89 h89) cwX12_comes cvX12_comes rfl mlX12_235 ⟨by decide, by decide⟩ rfl hl.1 (Nat.le_of_ble_eq_true rfl) ⟨by decide, by decide⟩ dX12_laysOrder_89 rfl (fun H locs hW hS => ?_)
        refine lv_iinc (v := x3 + (1 : Int32)) (lv' := [(3, .int (x3 + (1 : Int32))), (0, .ref (b + 0)), (1, .int x1), (2, .int x2)]) hx0 hb dX12_laysOrder_92 hl (k := 3) rfl rfl (by decide) rfl (fun ls hl => ?_)
        refine lv_goto (tgt := 56) hx0 hb dX12_laysOrder_95 (by decide) ?_
        exact ih (x3 + (1 : Int32)) v89 h _ _ _ hW hS (lv_sub hl [1, 2, 3, 0] rfl)
def fX12_laysOrder_l44 (x1 : Int32) : Nat → Int32 → Mem → Option (Int32 × Mem)
  | 0, _, _ => none
  | n + 1, x2, σ => if (0 : Int32) < 0 ∨ lm 3 ≤ (0 : Int32).toNatClampNeg then none else if (σ 3 (0 : Int32).toNatClampNeg) ≤ x2 then (some (x2, σ)) else ((fX12_laysOrder_l56 x1 x2 FU (0 : Int32) σ).bind fun q56 => fX12_laysOrder_l44 x1 n (x2 + (1 : Int32)) q56.2)
set_option maxRecDepth 100000 in
set_option maxHeartbeats 4000000 in
theorem bX12_laysOrder_l44 {p : Program} {l : Launch} {e : Env} {s : State} {m : MethodId} {args : Array Value} {below : List Frame} {meth : Method} {c : Code} {E : Ev} {b : Nat} (C : Cx p l s m args meth c E cX12_laysOrder 4 RX12 none) (x1 : Int32) {Qf : State → Prop} {q : Int32 × Mem} (hx : ∀ H locs ls, Wd E (LM E b) q.2 H → va_S (La (LM E b)) s.heap H locs → lv_has ls 4 [(0, .ref (b + 0)), (1, .int x1), (2, .int q.1)] → W p l e { frames := 2, cells := 0, slots := 0, locals := 45 } s m args below meth c H locs 0 0 Qf (F0 m 104 ls [])) : ∀ (n : Nat) (x2 : Int32) (σ : Mem), fX12_laysOrder_l44 x1 n x2 σ = some q → ∀ (H : Heap) (locs : List Loc) (ls : Array Slot), Wd E (LM E b) σ H → va_S (La (LM E b)) s.heap H locs → lv_has ls 4 [(0, .ref (b + 0)), (1, .int x1), (2, .int x2)] → W p l e { frames := 2, cells := 0, slots := 0, locals := 45 } s m args below meth c H locs 0 0 Qf (F0 m 44 ls []) := by
  have hx0 := C.1
  have hb := C.2.1
  intro n
  induction n with
  | zero => intro x2 σ h; simp [fX12_laysOrder_l44] at h
  | succ n ih =>
    intro x2 σ h H locs ls hW hS hl
    unfold fX12_laysOrder_l44 at h
    refine lv_iload_n hx0 hb dX12_laysOrder_44 rfl (lv_at hl 2 rfl) ?_
    refine lv_aload_n hx0 hb dX12_laysOrder_45 rfl (lv_at hl 0 rfl) ?_
    refine gtX12_5 C hW flX12_20 dX12_laysOrder_46 ?_
    refine lv_iconst (v := (0 : Int32)) hx0 hb dX12_laysOrder_49 (by decide) ?_
    by_cases z50 : (0 : Int32) < 0 ∨ lm 3 ≤ (0 : Int32).toNatClampNeg
    · rw [if_pos z50] at h; cases h
    rw [if_neg z50] at h
    refine ldIm (k := 3) C hW (by decide) z50 dX12_laysOrder_50 ?_
    refine lv_icmp_ge (tgt := 104) hx0 hb dX12_laysOrder_51 (by decide) (fun c51 => ?_) (fun c51 => ?_)
    · rw [if_pos c51] at h
      cases h
      exact hx _ _ _ hW hS (lv_sub hl [0, 1, 2] rfl)
    · rw [if_neg c51] at h
      refine lv_iconst (v := (0 : Int32)) hx0 hb dX12_laysOrder_54 (by decide) ?_
      refine lv_istore_n (lv' := [(3, .int (0 : Int32)), (0, .ref (b + 0)), (1, .int x1), (2, .int x2)]) hx0 hb dX12_laysOrder_55 rfl hl (by decide) rfl (fun ls hl => ?_)
      obtain ⟨q56, h56, h⟩ := bnd h
      try dsimp only at h
      refine bX12_laysOrder_l56 C x1 x2  (q := q56) ?_ FU (0 : Int32) σ h56 _ _ _ hW hS (lv_sub hl [1, 2, 3, 0] rfl)
      intro H locs ls hW hS hl
      refine lv_iinc (v := x2 + (1 : Int32)) (lv' := [(2, .int (x2 + (1 : Int32))), (0, .ref (b + 0)), (1, .int x1), (3, .int q56.1)]) hx0 hb dX12_laysOrder_98 hl (k := 2) rfl rfl (by decide) rfl (fun ls hl => ?_)
      refine lv_goto (tgt := 44) hx0 hb dX12_laysOrder_101 (by decide) ?_
      exact ih (x2 + (1 : Int32)) q56.2 h _ _ _ hW hS (lv_sub hl [1, 2, 0] rfl)
def fX12_laysOrder_l7 : Nat → Int32 → Mem → Option (Int32 × Mem)
  | 0, _, _ => none
  | n + 1, x1, σ => (fX12_leaves σ).bind fun v10 => if ((2 : Int32) * v10) ≤ x1 then (some (x1, σ)) else ((fX12_isPresent (x1 / (2 : Int32)) σ).bind fun v21 => if v21 = 0 then (fX12_laysOrder_l7 n (x1 + (1 : Int32)) σ) else ((fX12_comes (x1 / (2 : Int32)) (x1 - x1 / (2 : Int32) * (2 : Int32)) (-1 : Int32) (-1 : Int32) σ).bind fun v39 => (fX12_laysOrder_l44 x1 FU (0 : Int32) v39).bind fun q44 => fX12_laysOrder_l7 n (x1 + (1 : Int32)) q44.2))
set_option maxRecDepth 100000 in
set_option maxHeartbeats 4000000 in
theorem bX12_laysOrder_l7 {p : Program} {l : Launch} {e : Env} {s : State} {m : MethodId} {args : Array Value} {below : List Frame} {meth : Method} {c : Code} {E : Ev} {b : Nat} (C : Cx p l s m args meth c E cX12_laysOrder 4 RX12 none) {Qf : State → Prop} {q : Int32 × Mem} (hx : ∀ H locs ls, Wd E (LM E b) q.2 H → va_S (La (LM E b)) s.heap H locs → lv_has ls 4 [(0, .ref (b + 0)), (1, .int q.1)] → W p l e { frames := 2, cells := 0, slots := 0, locals := 45 } s m args below meth c H locs 0 0 Qf (F0 m 110 ls [])) : ∀ (n : Nat) (x1 : Int32) (σ : Mem), fX12_laysOrder_l7 n x1 σ = some q → ∀ (H : Heap) (locs : List Loc) (ls : Array Slot), Wd E (LM E b) σ H → va_S (La (LM E b)) s.heap H locs → lv_has ls 4 [(0, .ref (b + 0)), (1, .int x1)] → W p l e { frames := 2, cells := 0, slots := 0, locals := 45 } s m args below meth c H locs 0 0 Qf (F0 m 7 ls []) := by
  have hx0 := C.1
  have hb := C.2.1
  intro n
  induction n with
  | zero => intro x1 σ h; simp [fX12_laysOrder_l7] at h
  | succ n ih =>
    intro x1 σ h H locs ls hW hS hl
    unfold fX12_laysOrder_l7 at h
    refine lv_iload_n hx0 hb dX12_laysOrder_7 rfl (lv_at hl 1 rfl) ?_
    refine lv_iconst (v := (2 : Int32)) hx0 hb dX12_laysOrder_8 (by decide) ?_
    refine lv_aload_n hx0 hb dX12_laysOrder_9 rfl (lv_at hl 0 rfl) ?_
    obtain ⟨v10, h10, h⟩ := bnd h
    try dsimp only at h
    refine w_callV (L := (LM E b)) (k := 0) (As := []) (rest := [.int (2 : Int32), .int x1]) C hW hS (show 0 < 18 by decide) cm0 kcX12 (mX12_leaves   σ v10 h10) cwX12_leaves cvX12_leaves rfl mlX12_212 ⟨by decide, by decide⟩ rfl hl.1 (Nat.le_of_ble_eq_true rfl) ⟨by decide, by decide⟩ dX12_laysOrder_10 rfl (fun H locs hW hS => ?_)
    refine lv_imul hx0 hb dX12_laysOrder_13 ?_
    refine lv_icmp_ge (tgt := 110) hx0 hb dX12_laysOrder_14 (by decide) (fun c14 => ?_) (fun c14 => ?_)
    · rw [if_pos c14] at h
      cases h
      exact hx _ _ _ hW hS (lv_sub hl [0, 1] rfl)
    · rw [if_neg c14] at h
      refine lv_aload_n hx0 hb dX12_laysOrder_17 rfl (lv_at hl 0 rfl) ?_
      refine lv_iload_n hx0 hb dX12_laysOrder_18 rfl (lv_at hl 1 rfl) ?_
      refine lv_iconst (v := (2 : Int32)) hx0 hb dX12_laysOrder_19 (by decide) ?_
      refine lv_idiv hx0 hb dX12_laysOrder_20 (by decide) ?_
      obtain ⟨v21, h21, h⟩ := bnd h
      try dsimp only at h
      refine w_callV (L := (LM E b)) (k := 0) (As := [.int (x1 / (2 : Int32))]) (rest := []) C hW hS (show 0 < 18 by decide) cm0 kcX12 (mX12_isPresent (x1 / (2 : Int32))  σ v21 h21) cwX12_isPresent cvX12_isPresent rfl mlX12_215 ⟨by decide, by decide⟩ rfl hl.1 (Nat.le_of_ble_eq_true rfl) ⟨by decide, by decide⟩ dX12_laysOrder_21 rfl (fun H locs hW hS => ?_)
      refine lv_if_ne (tgt := 30) hx0 hb dX12_laysOrder_24 (by decide) (fun c24 => ?_) (fun c24 => ?_)
      · rw [if_neg c24] at h
        refine lv_aload_n hx0 hb dX12_laysOrder_30 rfl (lv_at hl 0 rfl) ?_
        refine lv_iload_n hx0 hb dX12_laysOrder_31 rfl (lv_at hl 1 rfl) ?_
        refine lv_iconst (v := (2 : Int32)) hx0 hb dX12_laysOrder_32 (by decide) ?_
        refine lv_idiv hx0 hb dX12_laysOrder_33 (by decide) ?_
        refine lv_iload_n hx0 hb dX12_laysOrder_34 rfl (lv_at hl 1 rfl) ?_
        refine lv_iconst (v := (2 : Int32)) hx0 hb dX12_laysOrder_35 (by decide) ?_
        refine lv_irem hx0 hb dX12_laysOrder_36 (by decide) ?_
        refine lv_iconst (v := (-1 : Int32)) hx0 hb dX12_laysOrder_37 (by decide) ?_
        refine lv_iconst (v := (-1 : Int32)) hx0 hb dX12_laysOrder_38 (by decide) ?_
        obtain ⟨v39, h39, h⟩ := bnd h
        try dsimp only at h
        refine w_callV (L := (LM E b)) (k := 0) (As := [.int (x1 / (2 : Int32)), .int (x1 - x1 / (2 : Int32) * (2 : Int32)), .int (-1 : Int32), .int (-1 : Int32)]) (rest := []) C hW hS (show 0 < 18 by decide) cm0 kcX12 (mX12_comes (x1 / (2 : Int32)) (x1 - x1 / (2 : Int32) * (2 : Int32)) (-1 : Int32) (-1 : Int32)  σ v39 h39) cwX12_comes cvX12_comes rfl mlX12_235 ⟨by decide, by decide⟩ rfl hl.1 (Nat.le_of_ble_eq_true rfl) ⟨by decide, by decide⟩ dX12_laysOrder_39 rfl (fun H locs hW hS => ?_)
        refine lv_iconst (v := (0 : Int32)) hx0 hb dX12_laysOrder_42 (by decide) ?_
        refine lv_istore_n (lv' := [(2, .int (0 : Int32)), (0, .ref (b + 0)), (1, .int x1)]) hx0 hb dX12_laysOrder_43 rfl hl (by decide) rfl (fun ls hl => ?_)
        obtain ⟨q44, h44, h⟩ := bnd h
        try dsimp only at h
        refine bX12_laysOrder_l44 C x1  (q := q44) ?_ FU (0 : Int32) v39 h44 _ _ _ hW hS (lv_sub hl [1, 2, 0] rfl)
        intro H locs ls hW hS hl
        refine lv_iinc (v := x1 + (1 : Int32)) (lv' := [(1, .int (x1 + (1 : Int32))), (0, .ref (b + 0)), (2, .int q44.1)]) hx0 hb dX12_laysOrder_104 hl (k := 1) rfl rfl (by decide) rfl (fun ls hl => ?_)
        refine lv_goto (tgt := 7) hx0 hb dX12_laysOrder_107 (by decide) ?_
        exact ih (x1 + (1 : Int32)) q44.2 h _ _ _ hW hS (lv_sub hl [1, 0] rfl)
      · rw [if_pos c24] at h
        refine lv_goto (tgt := 104) hx0 hb dX12_laysOrder_27 (by decide) ?_
        refine lv_iinc (v := x1 + (1 : Int32)) (lv' := [(1, .int (x1 + (1 : Int32))), (0, .ref (b + 0))]) hx0 hb dX12_laysOrder_104 hl (k := 1) rfl rfl (by decide) rfl (fun ls hl => ?_)
        refine lv_goto (tgt := 7) hx0 hb dX12_laysOrder_107 (by decide) ?_
        exact ih (x1 + (1 : Int32)) σ h _ _ _ hW hS (lv_sub hl [1, 0] rfl)
def fX12_laysOrder (σ : Mem) : Option Mem :=
  (fX12_laysOrder_l7 FU (0 : Int32) (up σ 0 17 (0 : Int32))).bind fun q7 => some q7.2
set_option maxRecDepth 100000 in
set_option maxHeartbeats 4000000 in
theorem mX12_laysOrder {l : Launch} {E : Ev} {b : Nat} (σ : Mem) (r : Mem) (h : fX12_laysOrder σ = some r) : Met l yX12_laysOrder (tw yX12_laysOrder cX12_laysOrder 4 none) { frames := 2, cells := 0, slots := 0, locals := 45 } (va_Pc [.ref (b + 0)] (Pr l E (LM E b) σ)) (Qz E (LM E b) none r) 0 0 (La (LM E b)) := by
  refine ct_of (by decide) (Nat.le_of_ble_eq_true rfl) ?_
  intro p e s m below meth c C hW hS ls hl
  have hx0 := C.1
  have hb := C.2.1
  have hl : lv_has ls 4 [(0, .ref (b + 0))] := hl
  unfold fX12_laysOrder at h
  refine lv_aload_n hx0 hb dX12_laysOrder_0 rfl (lv_at hl 0 rfl) ?_
  refine lv_iconst (v := (0 : Int32)) hx0 hb dX12_laysOrder_1 (by decide) ?_
  refine ptX12_17 C hW hS flX12_232 dX12_laysOrder_2 (fun H locs hW hS => ?_)
  refine lv_iconst (v := (0 : Int32)) hx0 hb dX12_laysOrder_5 (by decide) ?_
  refine lv_istore_n (lv' := [(1, .int (0 : Int32)), (0, .ref (b + 0))]) hx0 hb dX12_laysOrder_6 rfl hl (by decide) rfl (fun ls hl => ?_)
  obtain ⟨q7, h7, h⟩ := bnd h
  try dsimp only at h
  refine bX12_laysOrder_l7 C   (q := q7) ?_ FU (0 : Int32) (up σ 0 17 (0 : Int32)) h7 _ _ _ hW hS (lv_sub hl [1, 0] rfl)
  intro H locs ls hW hS hl
  cases h
  exact w_vret C hW hS dX12_laysOrder_110
def fX12_placeOfLeaf_l2 (x1 : Int32) (x2 : Int32) : Nat → Int32 → Mem → Option (Int32 ⊕ (Int32))
  | 0, _, _ => none
  | n + 1, x3, σ => if (σ 0 17) ≤ x3 then (some (.inr x3)) else (if ((4 : Int32) * x3) < 0 ∨ lm 8 ≤ ((4 : Int32) * x3).toNatClampNeg then none else if (σ 8 ((4 : Int32) * x3).toNatClampNeg) = x1 then (if (((4 : Int32) * x3) + (1 : Int32)) < 0 ∨ lm 8 ≤ (((4 : Int32) * x3) + (1 : Int32)).toNatClampNeg then none else if (σ 8 (((4 : Int32) * x3) + (1 : Int32)).toNatClampNeg) = x2 then (if (((4 : Int32) * x3) + (2 : Int32)) < 0 ∨ lm 8 ≤ (((4 : Int32) * x3) + (2 : Int32)).toNatClampNeg then none else if (σ 8 (((4 : Int32) * x3) + (2 : Int32)).toNatClampNeg) = (-1 : Int32) then (some (.inl x3)) else (fX12_placeOfLeaf_l2 x1 x2 n (x3 + (1 : Int32)) σ)) else (fX12_placeOfLeaf_l2 x1 x2 n (x3 + (1 : Int32)) σ)) else (fX12_placeOfLeaf_l2 x1 x2 n (x3 + (1 : Int32)) σ))
set_option maxRecDepth 100000 in
set_option maxHeartbeats 4000000 in
theorem bX12_placeOfLeaf_l2 {p : Program} {l : Launch} {e : Env} {s : State} {m : MethodId} {args : Array Value} {below : List Frame} {meth : Method} {c : Code} {E : Ev} {b : Nat} (C : Cx p l s m args meth c E cX12_placeOfLeaf 4 RX12 (some .int)) (x1 : Int32) (x2 : Int32) (σ : Mem) (r0 : Int32) {q0 : Int32 ⊕ (Int32)} (hr : ∀ r, q0 = .inl r → r = r0) (hx : ∀ q, q0 = .inr q → ∀ H locs ls, Wd E (LM E b) σ H → va_S (La (LM E b)) s.heap H locs → lv_has ls 4 [(0, .ref (b + 0)), (1, .int x1), (2, .int x2), (3, .int q)] → W p l e { frames := 0, cells := 0, slots := 0, locals := 0 } s m args below meth c H locs 0 0 (MQ below (Qz E (LM E b) (some (.int r0)) σ) args s 0 0 (La (LM E b))) (F0 m 58 ls [])) : ∀ (n : Nat) (x3 : Int32), fX12_placeOfLeaf_l2 x1 x2 n x3 σ = some q0 → ∀ (H : Heap) (locs : List Loc) (ls : Array Slot), Wd E (LM E b) σ H → va_S (La (LM E b)) s.heap H locs → lv_has ls 4 [(0, .ref (b + 0)), (1, .int x1), (2, .int x2), (3, .int x3)] → W p l e { frames := 0, cells := 0, slots := 0, locals := 0 } s m args below meth c H locs 0 0 (MQ below (Qz E (LM E b) (some (.int r0)) σ) args s 0 0 (La (LM E b))) (F0 m 2 ls []) := by
  have hx0 := C.1
  have hb := C.2.1
  intro n
  induction n with
  | zero => intro x3 h; simp [fX12_placeOfLeaf_l2] at h
  | succ n ih =>
    intro x3 h H locs ls hW hS hl
    unfold fX12_placeOfLeaf_l2 at h
    refine lv_iload_n hx0 hb dX12_placeOfLeaf_2 rfl (lv_at hl 3 rfl) ?_
    refine lv_aload_n hx0 hb dX12_placeOfLeaf_3 rfl (lv_at hl 0 rfl) ?_
    refine gtX12_17 C hW flX12_232 dX12_placeOfLeaf_4 ?_
    refine lv_icmp_ge (tgt := 58) hx0 hb dX12_placeOfLeaf_7 (by decide) (fun c7 => ?_) (fun c7 => ?_)
    · rw [if_pos c7] at h
      cases h
      exact hx _ rfl _ _ _ hW hS (lv_sub hl [0, 1, 2, 3] rfl)
    · rw [if_neg c7] at h
      refine lv_aload_n hx0 hb dX12_placeOfLeaf_10 rfl (lv_at hl 0 rfl) ?_
      refine gtX12_16 C hW flX12_36 dX12_placeOfLeaf_11 ?_
      refine lv_iconst (v := (4 : Int32)) hx0 hb dX12_placeOfLeaf_14 (by decide) ?_
      refine lv_iload_n hx0 hb dX12_placeOfLeaf_15 rfl (lv_at hl 3 rfl) ?_
      refine lv_imul hx0 hb dX12_placeOfLeaf_16 ?_
      by_cases z17 : ((4 : Int32) * x3) < 0 ∨ lm 8 ≤ ((4 : Int32) * x3).toNatClampNeg
      · rw [if_pos z17] at h; cases h
      rw [if_neg z17] at h
      refine ldIm (k := 8) C hW (by decide) z17 dX12_placeOfLeaf_17 ?_
      refine lv_iload_n hx0 hb dX12_placeOfLeaf_18 rfl (lv_at hl 1 rfl) ?_
      refine lv_icmp_ne (tgt := 52) hx0 hb dX12_placeOfLeaf_19 (by decide) (fun c19 => ?_) (fun c19 => ?_)
      · rw [if_neg c19] at h
        refine lv_iinc (v := x3 + (1 : Int32)) (lv' := [(3, .int (x3 + (1 : Int32))), (0, .ref (b + 0)), (1, .int x1), (2, .int x2)]) hx0 hb dX12_placeOfLeaf_52 hl (k := 3) rfl rfl (by decide) rfl (fun ls hl => ?_)
        refine lv_goto (tgt := 2) hx0 hb dX12_placeOfLeaf_55 (by decide) ?_
        exact ih (x3 + (1 : Int32)) h _ _ _ hW hS (lv_sub hl [1, 2, 3, 0] rfl)
      · rw [if_pos c19] at h
        refine lv_aload_n hx0 hb dX12_placeOfLeaf_22 rfl (lv_at hl 0 rfl) ?_
        refine gtX12_16 C hW flX12_36 dX12_placeOfLeaf_23 ?_
        refine lv_iconst (v := (4 : Int32)) hx0 hb dX12_placeOfLeaf_26 (by decide) ?_
        refine lv_iload_n hx0 hb dX12_placeOfLeaf_27 rfl (lv_at hl 3 rfl) ?_
        refine lv_imul hx0 hb dX12_placeOfLeaf_28 ?_
        refine lv_iconst (v := (1 : Int32)) hx0 hb dX12_placeOfLeaf_29 (by decide) ?_
        refine lv_iadd hx0 hb dX12_placeOfLeaf_30 ?_
        by_cases z31 : (((4 : Int32) * x3) + (1 : Int32)) < 0 ∨ lm 8 ≤ (((4 : Int32) * x3) + (1 : Int32)).toNatClampNeg
        · rw [if_pos z31] at h; cases h
        rw [if_neg z31] at h
        refine ldIm (k := 8) C hW (by decide) z31 dX12_placeOfLeaf_31 ?_
        refine lv_iload_n hx0 hb dX12_placeOfLeaf_32 rfl (lv_at hl 2 rfl) ?_
        refine lv_icmp_ne (tgt := 52) hx0 hb dX12_placeOfLeaf_33 (by decide) (fun c33 => ?_) (fun c33 => ?_)
        · rw [if_neg c33] at h
          refine lv_iinc (v := x3 + (1 : Int32)) (lv' := [(3, .int (x3 + (1 : Int32))), (0, .ref (b + 0)), (1, .int x1), (2, .int x2)]) hx0 hb dX12_placeOfLeaf_52 hl (k := 3) rfl rfl (by decide) rfl (fun ls hl => ?_)
          refine lv_goto (tgt := 2) hx0 hb dX12_placeOfLeaf_55 (by decide) ?_
          exact ih (x3 + (1 : Int32)) h _ _ _ hW hS (lv_sub hl [1, 2, 3, 0] rfl)
        · rw [if_pos c33] at h
          refine lv_aload_n hx0 hb dX12_placeOfLeaf_36 rfl (lv_at hl 0 rfl) ?_
          refine gtX12_16 C hW flX12_36 dX12_placeOfLeaf_37 ?_
          refine lv_iconst (v := (4 : Int32)) hx0 hb dX12_placeOfLeaf_40 (by decide) ?_
          refine lv_iload_n hx0 hb dX12_placeOfLeaf_41 rfl (lv_at hl 3 rfl) ?_
          refine lv_imul hx0 hb dX12_placeOfLeaf_42 ?_
          refine lv_iconst (v := (2 : Int32)) hx0 hb dX12_placeOfLeaf_43 (by decide) ?_
          refine lv_iadd hx0 hb dX12_placeOfLeaf_44 ?_
          by_cases z45 : (((4 : Int32) * x3) + (2 : Int32)) < 0 ∨ lm 8 ≤ (((4 : Int32) * x3) + (2 : Int32)).toNatClampNeg
          · rw [if_pos z45] at h; cases h
          rw [if_neg z45] at h
          refine ldIm (k := 8) C hW (by decide) z45 dX12_placeOfLeaf_45 ?_
          refine lv_iconst (v := (-1 : Int32)) hx0 hb dX12_placeOfLeaf_46 (by decide) ?_
          refine lv_icmp_ne (tgt := 52) hx0 hb dX12_placeOfLeaf_47 (by decide) (fun c47 => ?_) (fun c47 => ?_)
          · rw [if_neg c47] at h
            refine lv_iinc (v := x3 + (1 : Int32)) (lv' := [(3, .int (x3 + (1 : Int32))), (0, .ref (b + 0)), (1, .int x1), (2, .int x2)]) hx0 hb dX12_placeOfLeaf_52 hl (k := 3) rfl rfl (by decide) rfl (fun ls hl => ?_)
            refine lv_goto (tgt := 2) hx0 hb dX12_placeOfLeaf_55 (by decide) ?_
            exact ih (x3 + (1 : Int32)) h _ _ _ hW hS (lv_sub hl [1, 2, 3, 0] rfl)
          · rw [if_pos c47] at h
            refine lv_iload_n hx0 hb dX12_placeOfLeaf_50 rfl (lv_at hl 3 rfl) ?_
            cases h
            cases hr _ rfl
            exact w_iret C hW hS dX12_placeOfLeaf_51
def fX12_placeOfLeaf (x1 : Int32) (x2 : Int32) (σ : Mem) : Option Int32 :=
  (fX12_placeOfLeaf_l2 x1 x2 FU (0 : Int32) σ).bind fun q2 => match q2 with | .inl r => some r | .inr q2 => some (-1 : Int32)
set_option maxRecDepth 100000 in
set_option maxHeartbeats 4000000 in
theorem mX12_placeOfLeaf {l : Launch} {E : Ev} {b : Nat} (x1 : Int32) (x2 : Int32) (σ : Mem) (r : Int32) (h : fX12_placeOfLeaf x1 x2 σ = some r) : Met l yX12_placeOfLeaf (tw yX12_placeOfLeaf cX12_placeOfLeaf 4 (some .int)) { frames := 0, cells := 0, slots := 0, locals := 0 } (va_Pc [.ref (b + 0), .int x1, .int x2] (Pr l E (LM E b) σ)) (Qz E (LM E b) (some (.int r)) σ) 0 0 (La (LM E b)) := by
  refine ct_of (by decide) (Nat.le_of_ble_eq_true rfl) ?_
  intro p e s m below meth c C hW hS ls hl
  have hx0 := C.1
  have hb := C.2.1
  have hl : lv_has ls 4 [(0, .ref (b + 0)), (1, .int x1), (2, .int x2)] := hl
  unfold fX12_placeOfLeaf at h
  refine lv_iconst (v := (0 : Int32)) hx0 hb dX12_placeOfLeaf_0 (by decide) ?_
  refine lv_istore_n (lv' := [(3, .int (0 : Int32)), (0, .ref (b + 0)), (1, .int x1), (2, .int x2)]) hx0 hb dX12_placeOfLeaf_1 rfl hl (by decide) rfl (fun ls hl => ?_)
  obtain ⟨q2, h2, h⟩ := bnd h
  refine bX12_placeOfLeaf_l2 C x1 x2  σ r (q0 := q2) ?_ ?_ FU (0 : Int32) h2 _ _ _ hW hS (lv_sub hl [1, 2, 3, 0] rfl)
  · intro r1 hq; subst hq; (try dsimp only at h); exact Option.some.inj h
  · intro q2 hq H locs ls hW hS hl
    subst hq; try dsimp only at h
    refine lv_iconst (v := (-1 : Int32)) hx0 hb dX12_placeOfLeaf_58 (by decide) ?_
    cases h
    exact w_iret C hW hS dX12_placeOfLeaf_59
def fX12_placeOfSlip_l2 (x1 : Int32) (x2 : Int32) : Nat → Int32 → Mem → Option (Int32 ⊕ (Int32))
  | 0, _, _ => none
  | n + 1, x3, σ => if (σ 0 17) ≤ x3 then (some (.inr x3)) else (if (((4 : Int32) * x3) + (2 : Int32)) < 0 ∨ lm 8 ≤ (((4 : Int32) * x3) + (2 : Int32)).toNatClampNeg then none else if (σ 8 (((4 : Int32) * x3) + (2 : Int32)).toNatClampNeg) = x1 then (if (((4 : Int32) * x3) + (3 : Int32)) < 0 ∨ lm 8 ≤ (((4 : Int32) * x3) + (3 : Int32)).toNatClampNeg then none else if (σ 8 (((4 : Int32) * x3) + (3 : Int32)).toNatClampNeg) = x2 then (some (.inl x3)) else (fX12_placeOfSlip_l2 x1 x2 n (x3 + (1 : Int32)) σ)) else (fX12_placeOfSlip_l2 x1 x2 n (x3 + (1 : Int32)) σ))
set_option maxRecDepth 100000 in
set_option maxHeartbeats 4000000 in
theorem bX12_placeOfSlip_l2 {p : Program} {l : Launch} {e : Env} {s : State} {m : MethodId} {args : Array Value} {below : List Frame} {meth : Method} {c : Code} {E : Ev} {b : Nat} (C : Cx p l s m args meth c E cX12_placeOfSlip 4 RX12 (some .int)) (x1 : Int32) (x2 : Int32) (σ : Mem) (r0 : Int32) {q0 : Int32 ⊕ (Int32)} (hr : ∀ r, q0 = .inl r → r = r0) (hx : ∀ q, q0 = .inr q → ∀ H locs ls, Wd E (LM E b) σ H → va_S (La (LM E b)) s.heap H locs → lv_has ls 4 [(0, .ref (b + 0)), (1, .int x1), (2, .int x2), (3, .int q)] → W p l e { frames := 0, cells := 0, slots := 0, locals := 0 } s m args below meth c H locs 0 0 (MQ below (Qz E (LM E b) (some (.int r0)) σ) args s 0 0 (La (LM E b))) (F0 m 46 ls [])) : ∀ (n : Nat) (x3 : Int32), fX12_placeOfSlip_l2 x1 x2 n x3 σ = some q0 → ∀ (H : Heap) (locs : List Loc) (ls : Array Slot), Wd E (LM E b) σ H → va_S (La (LM E b)) s.heap H locs → lv_has ls 4 [(0, .ref (b + 0)), (1, .int x1), (2, .int x2), (3, .int x3)] → W p l e { frames := 0, cells := 0, slots := 0, locals := 0 } s m args below meth c H locs 0 0 (MQ below (Qz E (LM E b) (some (.int r0)) σ) args s 0 0 (La (LM E b))) (F0 m 2 ls []) := by
  have hx0 := C.1
  have hb := C.2.1
  intro n
  induction n with
  | zero => intro x3 h; simp [fX12_placeOfSlip_l2] at h
  | succ n ih =>
    intro x3 h H locs ls hW hS hl
    unfold fX12_placeOfSlip_l2 at h
    refine lv_iload_n hx0 hb dX12_placeOfSlip_2 rfl (lv_at hl 3 rfl) ?_
    refine lv_aload_n hx0 hb dX12_placeOfSlip_3 rfl (lv_at hl 0 rfl) ?_
    refine gtX12_17 C hW flX12_232 dX12_placeOfSlip_4 ?_
    refine lv_icmp_ge (tgt := 46) hx0 hb dX12_placeOfSlip_7 (by decide) (fun c7 => ?_) (fun c7 => ?_)
    · rw [if_pos c7] at h
      cases h
      exact hx _ rfl _ _ _ hW hS (lv_sub hl [0, 1, 2, 3] rfl)
    · rw [if_neg c7] at h
      refine lv_aload_n hx0 hb dX12_placeOfSlip_10 rfl (lv_at hl 0 rfl) ?_
      refine gtX12_16 C hW flX12_36 dX12_placeOfSlip_11 ?_
      refine lv_iconst (v := (4 : Int32)) hx0 hb dX12_placeOfSlip_14 (by decide) ?_
      refine lv_iload_n hx0 hb dX12_placeOfSlip_15 rfl (lv_at hl 3 rfl) ?_
      refine lv_imul hx0 hb dX12_placeOfSlip_16 ?_
      refine lv_iconst (v := (2 : Int32)) hx0 hb dX12_placeOfSlip_17 (by decide) ?_
      refine lv_iadd hx0 hb dX12_placeOfSlip_18 ?_
      by_cases z19 : (((4 : Int32) * x3) + (2 : Int32)) < 0 ∨ lm 8 ≤ (((4 : Int32) * x3) + (2 : Int32)).toNatClampNeg
      · rw [if_pos z19] at h; cases h
      rw [if_neg z19] at h
      refine ldIm (k := 8) C hW (by decide) z19 dX12_placeOfSlip_19 ?_
      refine lv_iload_n hx0 hb dX12_placeOfSlip_20 rfl (lv_at hl 1 rfl) ?_
      refine lv_icmp_ne (tgt := 40) hx0 hb dX12_placeOfSlip_21 (by decide) (fun c21 => ?_) (fun c21 => ?_)
      · rw [if_neg c21] at h
        refine lv_iinc (v := x3 + (1 : Int32)) (lv' := [(3, .int (x3 + (1 : Int32))), (0, .ref (b + 0)), (1, .int x1), (2, .int x2)]) hx0 hb dX12_placeOfSlip_40 hl (k := 3) rfl rfl (by decide) rfl (fun ls hl => ?_)
        refine lv_goto (tgt := 2) hx0 hb dX12_placeOfSlip_43 (by decide) ?_
        exact ih (x3 + (1 : Int32)) h _ _ _ hW hS (lv_sub hl [1, 2, 3, 0] rfl)
      · rw [if_pos c21] at h
        refine lv_aload_n hx0 hb dX12_placeOfSlip_24 rfl (lv_at hl 0 rfl) ?_
        refine gtX12_16 C hW flX12_36 dX12_placeOfSlip_25 ?_
        refine lv_iconst (v := (4 : Int32)) hx0 hb dX12_placeOfSlip_28 (by decide) ?_
        refine lv_iload_n hx0 hb dX12_placeOfSlip_29 rfl (lv_at hl 3 rfl) ?_
        refine lv_imul hx0 hb dX12_placeOfSlip_30 ?_
        refine lv_iconst (v := (3 : Int32)) hx0 hb dX12_placeOfSlip_31 (by decide) ?_
        refine lv_iadd hx0 hb dX12_placeOfSlip_32 ?_
        by_cases z33 : (((4 : Int32) * x3) + (3 : Int32)) < 0 ∨ lm 8 ≤ (((4 : Int32) * x3) + (3 : Int32)).toNatClampNeg
        · rw [if_pos z33] at h; cases h
        rw [if_neg z33] at h
        refine ldIm (k := 8) C hW (by decide) z33 dX12_placeOfSlip_33 ?_
        refine lv_iload_n hx0 hb dX12_placeOfSlip_34 rfl (lv_at hl 2 rfl) ?_
        refine lv_icmp_ne (tgt := 40) hx0 hb dX12_placeOfSlip_35 (by decide) (fun c35 => ?_) (fun c35 => ?_)
        · rw [if_neg c35] at h
          refine lv_iinc (v := x3 + (1 : Int32)) (lv' := [(3, .int (x3 + (1 : Int32))), (0, .ref (b + 0)), (1, .int x1), (2, .int x2)]) hx0 hb dX12_placeOfSlip_40 hl (k := 3) rfl rfl (by decide) rfl (fun ls hl => ?_)
          refine lv_goto (tgt := 2) hx0 hb dX12_placeOfSlip_43 (by decide) ?_
          exact ih (x3 + (1 : Int32)) h _ _ _ hW hS (lv_sub hl [1, 2, 3, 0] rfl)
        · rw [if_pos c35] at h
          refine lv_iload_n hx0 hb dX12_placeOfSlip_38 rfl (lv_at hl 3 rfl) ?_
          cases h
          cases hr _ rfl
          exact w_iret C hW hS dX12_placeOfSlip_39
def fX12_placeOfSlip (x1 : Int32) (x2 : Int32) (σ : Mem) : Option Int32 :=
  (fX12_placeOfSlip_l2 x1 x2 FU (0 : Int32) σ).bind fun q2 => match q2 with | .inl r => some r | .inr q2 => some (-1 : Int32)
set_option maxRecDepth 100000 in
set_option maxHeartbeats 4000000 in
theorem mX12_placeOfSlip {l : Launch} {E : Ev} {b : Nat} (x1 : Int32) (x2 : Int32) (σ : Mem) (r : Int32) (h : fX12_placeOfSlip x1 x2 σ = some r) : Met l yX12_placeOfSlip (tw yX12_placeOfSlip cX12_placeOfSlip 4 (some .int)) { frames := 0, cells := 0, slots := 0, locals := 0 } (va_Pc [.ref (b + 0), .int x1, .int x2] (Pr l E (LM E b) σ)) (Qz E (LM E b) (some (.int r)) σ) 0 0 (La (LM E b)) := by
  refine ct_of (by decide) (Nat.le_of_ble_eq_true rfl) ?_
  intro p e s m below meth c C hW hS ls hl
  have hx0 := C.1
  have hb := C.2.1
  have hl : lv_has ls 4 [(0, .ref (b + 0)), (1, .int x1), (2, .int x2)] := hl
  unfold fX12_placeOfSlip at h
  refine lv_iconst (v := (0 : Int32)) hx0 hb dX12_placeOfSlip_0 (by decide) ?_
  refine lv_istore_n (lv' := [(3, .int (0 : Int32)), (0, .ref (b + 0)), (1, .int x1), (2, .int x2)]) hx0 hb dX12_placeOfSlip_1 rfl hl (by decide) rfl (fun ls hl => ?_)
  obtain ⟨q2, h2, h⟩ := bnd h
  refine bX12_placeOfSlip_l2 C x1 x2  σ r (q0 := q2) ?_ ?_ FU (0 : Int32) h2 _ _ _ hW hS (lv_sub hl [1, 2, 3, 0] rfl)
  · intro r1 hq; subst hq; (try dsimp only at h); exact Option.some.inj h
  · intro q2 hq H locs ls hW hS hl
    subst hq; try dsimp only at h
    refine lv_iconst (v := (-1 : Int32)) hx0 hb dX12_placeOfSlip_46 (by decide) ?_
    cases h
    exact w_iret C hW hS dX12_placeOfSlip_47
def fX12_isPlace (x1 : Int32) (σ : Mem) : Option (Int32 × Mem) :=
  (fX12_laysOrder σ).bind fun v1 => (fX12_isIn x1.toInt64 (0 : Int64) (((v1 0 17) - (1 : Int32)).toInt64) v1).bind fun v14 => if v14 = 0 ∨ v14 = 1 then some (v14, v1) else none
set_option maxRecDepth 100000 in
set_option maxHeartbeats 4000000 in
theorem mX12_isPlace {l : Launch} {E : Ev} {b : Nat} (x1 : Int32) (σ : Mem) (r : (Int32 × Mem)) (h : fX12_isPlace x1 σ = some r) : Met l yX12_isPlace (tw yX12_isPlace cX12_isPlace 2 (some .boolean)) { frames := 3, cells := 0, slots := 0, locals := 68 } (va_Pc [.ref (b + 0), .int x1] (Pr l E (LM E b) σ)) (Qz E (LM E b) (some (.int r.1)) r.2) 0 0 (La (LM E b)) := by
  refine ct_of (by decide) (Nat.le_of_ble_eq_true rfl) ?_
  intro p e s m below meth c C hW hS ls hl
  have hx0 := C.1
  have hb := C.2.1
  have hl : lv_has ls 2 [(0, .ref (b + 0)), (1, .int x1)] := hl
  unfold fX12_isPlace at h
  refine lv_aload_n hx0 hb dX12_isPlace_0 rfl (lv_at hl 0 rfl) ?_
  obtain ⟨v1, h1, h⟩ := bnd h
  try dsimp only at h
  refine w_callV (L := (LM E b)) (k := 0) (As := []) (rest := []) C hW hS (show 0 < 18 by decide) cm0 kcX12 (mX12_laysOrder   σ v1 h1) cwX12_laysOrder cvX12_laysOrder rfl mlX12_239 ⟨by decide, by decide⟩ rfl hl.1 (Nat.le_of_ble_eq_true rfl) ⟨by decide, by decide⟩ dX12_isPlace_1 rfl (fun H locs hW hS => ?_)
  refine lv_iload_n hx0 hb dX12_isPlace_4 rfl (lv_at hl 1 rfl) ?_
  refine lv_i2l hx0 hb dX12_isPlace_5 rfl ?_
  refine lv_lconst (v := (0 : Int64)) hx0 hb dX12_isPlace_6 (by decide) ?_
  refine lv_aload_n hx0 hb dX12_isPlace_7 rfl (lv_at hl 0 rfl) ?_
  refine gtX12_17 C hW flX12_232 dX12_isPlace_8 ?_
  refine lv_iconst (v := (1 : Int32)) hx0 hb dX12_isPlace_11 (by decide) ?_
  refine lv_isub hx0 hb dX12_isPlace_12 ?_
  refine lv_i2l hx0 hb dX12_isPlace_13 rfl ?_
  obtain ⟨v14, h14, h⟩ := bnd h
  try dsimp only at h
  refine w_callS (L := (LM E b)) (As := [.long x1.toInt64, .long (0 : Int64), .long (((v1 0 17) - (1 : Int32)).toInt64)]) (rest := []) C hW hS (mX12_isIn x1.toInt64 (0 : Int64) (((v1 0 17) - (1 : Int32)).toInt64)  v1 v14 h14) cwX12_isIn csX12_isIn mlX12_101 ⟨by decide, by decide⟩ rfl hl.1 (Nat.le_of_ble_eq_true rfl) ⟨by decide, by decide⟩ dX12_isPlace_14 rfl (fun H locs hW hS => ?_)
  by_cases z17 : v14 = 0 ∨ v14 = 1
  case neg => rw [if_neg z17] at h; cases h
  rw [if_pos z17] at h
  cases h
  exact w_zret C hW hS z17 dX12_isPlace_17
def fX12_writes (x1 : Int32) (σ : Mem) : Option Mem :=
  if (σ 0 21) < 0 ∨ lm 10 ≤ (σ 0 21).toNatClampNeg then none else some (up (up σ 10 (σ 0 21).toNatClampNeg (vp_nar .byte x1.toInt8.toInt32)) 0 21 (((up σ 10 (σ 0 21).toNatClampNeg (vp_nar .byte x1.toInt8.toInt32)) 0 21) + (1 : Int32)))
set_option maxRecDepth 100000 in
set_option maxHeartbeats 4000000 in
theorem mX12_writes {l : Launch} {E : Ev} {b : Nat} (x1 : Int32) (σ : Mem) (r : Mem) (h : fX12_writes x1 σ = some r) : Met l yX12_writes (tw yX12_writes cX12_writes 2 none) { frames := 0, cells := 0, slots := 0, locals := 0 } (va_Pc [.ref (b + 0), .int x1] (Pr l E (LM E b) σ)) (Qz E (LM E b) none r) 0 0 (La (LM E b)) := by
  refine ct_of (by decide) (Nat.le_of_ble_eq_true rfl) ?_
  intro p e s m below meth c C hW hS ls hl
  have hx0 := C.1
  have hb := C.2.1
  have hl : lv_has ls 2 [(0, .ref (b + 0)), (1, .int x1)] := hl
  unfold fX12_writes at h
  refine lv_aload_n hx0 hb dX12_writes_0 rfl (lv_at hl 0 rfl) ?_
  refine gtX12_19 C hW flX12_42 dX12_writes_1 ?_
  refine lv_aload_n hx0 hb dX12_writes_4 rfl (lv_at hl 0 rfl) ?_
  refine gtX12_21 C hW flX12_242 dX12_writes_5 ?_
  refine lv_iload_n hx0 hb dX12_writes_8 rfl (lv_at hl 1 rfl) ?_
  refine lv_i2b hx0 hb dX12_writes_9 rfl ?_
  by_cases z10 : (σ 0 21) < 0 ∨ lm 10 ≤ (σ 0 21).toNatClampNeg
  · rw [if_pos z10] at h; cases h
  rw [if_neg z10] at h
  refine saBm (k := 10) C hW hS (by decide) z10 dX12_writes_10 (fun H locs hW hS => ?_)
  refine lv_aload_n hx0 hb dX12_writes_11 rfl (lv_at hl 0 rfl) ?_
  refine lv_dup hx0 hb dX12_writes_12 rfl ?_
  refine gtX12_21 C hW flX12_242 dX12_writes_13 ?_
  refine lv_iconst (v := (1 : Int32)) hx0 hb dX12_writes_16 (by decide) ?_
  refine lv_iadd hx0 hb dX12_writes_17 ?_
  refine ptX12_21 C hW hS flX12_242 dX12_writes_18 (fun H locs hW hS => ?_)
  cases h
  exact w_vret C hW hS dX12_writes_21
def fX12_writesNumber_l2 (x1 : Int32) : Nat → Int32 → Mem → Option (Int32)
  | 0, _, _ => none
  | n + 1, x2, σ => if x2 = 0 then none else if (x1 / x2) < (10 : Int32) then (some x2) else (fX12_writesNumber_l2 x1 n (x2 * (10 : Int32)) σ)
set_option maxRecDepth 100000 in
set_option maxHeartbeats 4000000 in
theorem bX12_writesNumber_l2 {p : Program} {l : Launch} {e : Env} {s : State} {m : MethodId} {args : Array Value} {below : List Frame} {meth : Method} {c : Code} {E : Ev} {b : Nat} (C : Cx p l s m args meth c E cX12_writesNumber 4 RX12 none) (x1 : Int32) (σ : Mem) {Qf : State → Prop} {q : Int32} (hx : ∀ H locs ls, Wd E (LM E b) σ H → va_S (La (LM E b)) s.heap H locs → lv_has ls 4 [(0, .ref (b + 0)), (1, .int x1), (2, .int q)] → W p l e { frames := 1, cells := 0, slots := 0, locals := 21 } s m args below meth c H locs 0 0 Qf (F0 m 18 ls [])) : ∀ (n : Nat) (x2 : Int32), fX12_writesNumber_l2 x1 n x2 σ = some q → ∀ (H : Heap) (locs : List Loc) (ls : Array Slot), Wd E (LM E b) σ H → va_S (La (LM E b)) s.heap H locs → lv_has ls 4 [(0, .ref (b + 0)), (1, .int x1), (2, .int x2)] → W p l e { frames := 1, cells := 0, slots := 0, locals := 21 } s m args below meth c H locs 0 0 Qf (F0 m 2 ls []) := by
  have hx0 := C.1
  have hb := C.2.1
  intro n
  induction n with
  | zero => intro x2 h; simp [fX12_writesNumber_l2] at h
  | succ n ih =>
    intro x2 h H locs ls hW hS hl
    unfold fX12_writesNumber_l2 at h
    refine lv_iload_n hx0 hb dX12_writesNumber_2 rfl (lv_at hl 1 rfl) ?_
    refine lv_iload_n hx0 hb dX12_writesNumber_3 rfl (lv_at hl 2 rfl) ?_
    by_cases z4 : x2 = 0
    · rw [if_pos z4] at h; cases h
    rw [if_neg z4] at h
    refine lv_idiv hx0 hb dX12_writesNumber_4 z4 ?_
    refine lv_bipush (v := (10 : Int32)) hx0 hb dX12_writesNumber_5 (by decide) ?_
    refine lv_icmp_lt (tgt := 18) hx0 hb dX12_writesNumber_7 (by decide) (fun c7 => ?_) (fun c7 => ?_)
    · rw [if_pos c7] at h
      cases h
      exact hx _ _ _ hW hS (lv_sub hl [0, 1, 2] rfl)
    · rw [if_neg c7] at h
      refine lv_iload_n hx0 hb dX12_writesNumber_10 rfl (lv_at hl 2 rfl) ?_
      refine lv_bipush (v := (10 : Int32)) hx0 hb dX12_writesNumber_11 (by decide) ?_
      refine lv_imul hx0 hb dX12_writesNumber_13 ?_
      refine lv_istore_n (lv' := [(2, .int (x2 * (10 : Int32))), (0, .ref (b + 0)), (1, .int x1)]) hx0 hb dX12_writesNumber_14 rfl hl (by decide) rfl (fun ls hl => ?_)
      refine lv_goto (tgt := 2) hx0 hb dX12_writesNumber_15 (by decide) ?_
      exact ih (x2 * (10 : Int32)) h _ _ _ hW hS (lv_sub hl [1, 2, 0] rfl)
def fX12_writesNumber_l20 (x1 : Int32) : Nat → Int32 → Mem → Option (Int32 × Mem)
  | 0, _, _ => none
  | n + 1, x3, σ => if x3 ≤ 0 then (some (x3, σ)) else (if x3 = 0 then none else (fX12_writes ((48 : Int32) + ((x1 / x3) - (x1 / x3) / (10 : Int32) * (10 : Int32))) σ).bind fun v34 => fX12_writesNumber_l20 x1 n (x3 / (10 : Int32)) v34)
set_option maxRecDepth 100000 in
set_option maxHeartbeats 4000000 in
theorem bX12_writesNumber_l20 {p : Program} {l : Launch} {e : Env} {s : State} {m : MethodId} {args : Array Value} {below : List Frame} {meth : Method} {c : Code} {E : Ev} {b : Nat} (C : Cx p l s m args meth c E cX12_writesNumber 4 RX12 none) (x1 : Int32) {Qf : State → Prop} {q : Int32 × Mem} (hx : ∀ H locs ls, Wd E (LM E b) q.2 H → va_S (La (LM E b)) s.heap H locs → lv_has ls 4 [(0, .ref (b + 0)), (1, .int x1), (3, .int q.1)] → W p l e { frames := 1, cells := 0, slots := 0, locals := 21 } s m args below meth c H locs 0 0 Qf (F0 m 45 ls [])) : ∀ (n : Nat) (x3 : Int32) (σ : Mem), fX12_writesNumber_l20 x1 n x3 σ = some q → ∀ (H : Heap) (locs : List Loc) (ls : Array Slot), Wd E (LM E b) σ H → va_S (La (LM E b)) s.heap H locs → lv_has ls 4 [(0, .ref (b + 0)), (1, .int x1), (3, .int x3)] → W p l e { frames := 1, cells := 0, slots := 0, locals := 21 } s m args below meth c H locs 0 0 Qf (F0 m 20 ls []) := by
  have hx0 := C.1
  have hb := C.2.1
  intro n
  induction n with
  | zero => intro x3 σ h; simp [fX12_writesNumber_l20] at h
  | succ n ih =>
    intro x3 σ h H locs ls hW hS hl
    unfold fX12_writesNumber_l20 at h
    refine lv_iload_n hx0 hb dX12_writesNumber_20 rfl (lv_at hl 2 rfl) ?_
    refine lv_if_le (tgt := 45) hx0 hb dX12_writesNumber_21 (by decide) (fun c21 => ?_) (fun c21 => ?_)
    · rw [if_pos c21] at h
      cases h
      exact hx _ _ _ hW hS (lv_sub hl [0, 1, 2] rfl)
    · rw [if_neg c21] at h
      refine lv_aload_n hx0 hb dX12_writesNumber_24 rfl (lv_at hl 0 rfl) ?_
      refine lv_bipush (v := (48 : Int32)) hx0 hb dX12_writesNumber_25 (by decide) ?_
      refine lv_iload_n hx0 hb dX12_writesNumber_27 rfl (lv_at hl 1 rfl) ?_
      refine lv_iload_n hx0 hb dX12_writesNumber_28 rfl (lv_at hl 2 rfl) ?_
      by_cases z29 : x3 = 0
      · rw [if_pos z29] at h; cases h
      rw [if_neg z29] at h
      refine lv_idiv hx0 hb dX12_writesNumber_29 z29 ?_
      refine lv_bipush (v := (10 : Int32)) hx0 hb dX12_writesNumber_30 (by decide) ?_
      refine lv_irem hx0 hb dX12_writesNumber_32 (by decide) ?_
      refine lv_iadd hx0 hb dX12_writesNumber_33 ?_
      obtain ⟨v34, h34, h⟩ := bnd h
      try dsimp only at h
      refine w_callV (L := (LM E b)) (k := 0) (As := [.int ((48 : Int32) + ((x1 / x3) - (x1 / x3) / (10 : Int32) * (10 : Int32)))]) (rest := []) C hW hS (show 0 < 18 by decide) cm0 kcX12 (mX12_writes ((48 : Int32) + ((x1 / x3) - (x1 / x3) / (10 : Int32) * (10 : Int32)))  σ v34 h34) cwX12_writes cvX12_writes rfl mlX12_245 ⟨by decide, by decide⟩ rfl hl.1 (Nat.le_of_ble_eq_true rfl) ⟨by decide, by decide⟩ dX12_writesNumber_34 rfl (fun H locs hW hS => ?_)
      refine lv_iload_n hx0 hb dX12_writesNumber_37 rfl (lv_at hl 2 rfl) ?_
      refine lv_bipush (v := (10 : Int32)) hx0 hb dX12_writesNumber_38 (by decide) ?_
      refine lv_idiv hx0 hb dX12_writesNumber_40 (by decide) ?_
      refine lv_istore_n (lv' := [(3, .int (x3 / (10 : Int32))), (0, .ref (b + 0)), (1, .int x1)]) hx0 hb dX12_writesNumber_41 rfl hl (by decide) rfl (fun ls hl => ?_)
      refine lv_goto (tgt := 20) hx0 hb dX12_writesNumber_42 (by decide) ?_
      exact ih (x3 / (10 : Int32)) v34 h _ _ _ hW hS (lv_sub hl [1, 2, 0] rfl)
def fX12_writesNumber (x1 : Int32) (σ : Mem) : Option Mem :=
  (fX12_writesNumber_l2 x1 FU (1 : Int32) σ).bind fun q2 => (fX12_writesNumber_l20 x1 FU q2 σ).bind fun q20 => some q20.2
set_option maxRecDepth 100000 in
set_option maxHeartbeats 4000000 in
theorem mX12_writesNumber {l : Launch} {E : Ev} {b : Nat} (x1 : Int32) (σ : Mem) (r : Mem) (h : fX12_writesNumber x1 σ = some r) : Met l yX12_writesNumber (tw yX12_writesNumber cX12_writesNumber 4 none) { frames := 1, cells := 0, slots := 0, locals := 21 } (va_Pc [.ref (b + 0), .int x1] (Pr l E (LM E b) σ)) (Qz E (LM E b) none r) 0 0 (La (LM E b)) := by
  refine ct_of (by decide) (Nat.le_of_ble_eq_true rfl) ?_
  intro p e s m below meth c C hW hS ls hl
  have hx0 := C.1
  have hb := C.2.1
  have hl : lv_has ls 4 [(0, .ref (b + 0)), (1, .int x1)] := hl
  unfold fX12_writesNumber at h
  refine lv_iconst (v := (1 : Int32)) hx0 hb dX12_writesNumber_0 (by decide) ?_
  refine lv_istore_n (lv' := [(2, .int (1 : Int32)), (0, .ref (b + 0)), (1, .int x1)]) hx0 hb dX12_writesNumber_1 rfl hl (by decide) rfl (fun ls hl => ?_)
  obtain ⟨q2, h2, h⟩ := bnd h
  try dsimp only at h
  refine bX12_writesNumber_l2 C x1  σ (q := q2) ?_ FU (1 : Int32) h2 _ _ _ hW hS (lv_sub hl [1, 2, 0] rfl)
  intro H locs ls hW hS hl
  refine lv_iload_n hx0 hb dX12_writesNumber_18 rfl (lv_at hl 2 rfl) ?_
  refine lv_istore_n (lv' := [(3, .int q2), (0, .ref (b + 0)), (1, .int x1), (2, .int q2)]) hx0 hb dX12_writesNumber_19 rfl hl (by decide) rfl (fun ls hl => ?_)
  obtain ⟨q20, h20, h⟩ := bnd h
  try dsimp only at h
  refine bX12_writesNumber_l20 C x1  (q := q20) ?_ FU q2 σ h20 _ _ _ hW hS (lv_sub hl [1, 2, 0] rfl)
  intro H locs ls hW hS hl
  cases h
  exact w_vret C hW hS dX12_writesNumber_45
