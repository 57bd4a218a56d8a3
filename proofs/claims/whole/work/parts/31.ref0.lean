/-! the reference, by program out of the bytecode -/
def fX12_thrown (σ : Mem) : Option Int32 :=
  some (σ 0 0)
set_option maxRecDepth 100000 in
set_option maxHeartbeats 4000000 in
theorem mX12_thrown {l : Launch} {E : Ev} {b : Nat} (σ : Mem) (r : Int32) (h : fX12_thrown σ = some r) : Met l yX12_thrown (tw yX12_thrown cX12_thrown 1 (some .int)) { frames := 0, cells := 0, slots := 0, locals := 0 } (va_Pc [.ref (b + 0)] (Pr l E (LM E b) σ)) (Qz E (LM E b) (some (.int r)) σ) 0 0 (La (LM E b)) := by
  refine ct_of (by decide) (Nat.le_of_ble_eq_true rfl) ?_
  intro p e s m below meth c C hW hS ls hl
  have hx0 := C.1
  have hb := C.2.1
  have hl : lv_has ls 1 [(0, .ref (b + 0))] := hl
  unfold fX12_thrown at h
  refine lv_aload_n hx0 hb dX12_thrown_0 rfl (lv_at hl 0 rfl) ?_
  refine gtX12_0 C hW flX12_3 dX12_thrown_1 ?_
  cases h
  exact w_iret C hW hS dX12_thrown_4
def fX12_isIn (j0 : Int64) (j2 : Int64) (j4 : Int64) (σ : Mem) : Option Int32 :=
  if (lg_cmp j0 j2) < 0 then (some (0 : Int32)) else (if 0 < (lg_cmp j0 j4) then (some (0 : Int32)) else (some (1 : Int32)))
set_option maxRecDepth 100000 in
set_option maxHeartbeats 4000000 in
theorem mX12_isIn {l : Launch} {E : Ev} {b : Nat} (j0 : Int64) (j2 : Int64) (j4 : Int64) (σ : Mem) (r : Int32) (h : fX12_isIn j0 j2 j4 σ = some r) : Met l yX12_isIn (tw yX12_isIn cX12_isIn 6 (some .boolean)) { frames := 0, cells := 0, slots := 0, locals := 0 } (va_Pc [.long j0, .long j2, .long j4] (Pr l E (LM E b) σ)) (Qz E (LM E b) (some (.int r)) σ) 0 0 (La (LM E b)) := by
  refine ct_of (by decide) (Nat.le_of_ble_eq_true rfl) ?_
  intro p e s m below meth c C hW hS ls hl
  have hx0 := C.1
  have hb := C.2.1
  have hl : lv_has ls 6 [(0, .long j0), (2, .long j2), (4, .long j4)] := hl
  unfold fX12_isIn at h
  refine lv_lload_n hx0 hb dX12_isIn_0 rfl (lv_at hl 0 rfl) ?_
  refine lv_lload_n hx0 hb dX12_isIn_1 rfl (lv_at hl 1 rfl) ?_
  refine W.lcmp hx0 hb dX12_isIn_2 ?_
  refine lv_if_lt (tgt := 17) hx0 hb dX12_isIn_3 (by decide) (fun c3 => ?_) (fun c3 => ?_)
  · rw [if_pos c3] at h
    refine lv_iconst (v := (0 : Int32)) hx0 hb dX12_isIn_17 (by decide) ?_
    cases h
    exact w_zret C hW hS (Or.inl rfl) dX12_isIn_18
  · rw [if_neg c3] at h
    refine lv_lload_n hx0 hb dX12_isIn_6 rfl (lv_at hl 0 rfl) ?_
    refine lv_lload hx0 hb dX12_isIn_7 (lv_at hl 2 rfl) ?_
    refine W.lcmp hx0 hb dX12_isIn_9 ?_
    refine lv_if_gt (tgt := 17) hx0 hb dX12_isIn_10 (by decide) (fun c10 => ?_) (fun c10 => ?_)
    · rw [if_pos c10] at h
      refine lv_iconst (v := (0 : Int32)) hx0 hb dX12_isIn_17 (by decide) ?_
      cases h
      exact w_zret C hW hS (Or.inl rfl) dX12_isIn_18
    · rw [if_neg c10] at h
      refine lv_iconst (v := (1 : Int32)) hx0 hb dX12_isIn_13 (by decide) ?_
      refine lv_goto (tgt := 18) hx0 hb dX12_isIn_14 (by decide) ?_
      cases h
      exact w_zret C hW hS (Or.inr rfl) dX12_isIn_18
def fX12_fails (x1 : Int32) (σ : Mem) : Option (Int32 × Mem) :=
  some ((0 : Int32), up σ 0 0 x1)
set_option maxRecDepth 100000 in
set_option maxHeartbeats 4000000 in
theorem mX12_fails {l : Launch} {E : Ev} {b : Nat} (x1 : Int32) (σ : Mem) (r : (Int32 × Mem)) (h : fX12_fails x1 σ = some r) : Met l yX12_fails (tw yX12_fails cX12_fails 2 (some .int)) { frames := 0, cells := 0, slots := 0, locals := 0 } (va_Pc [.ref (b + 0), .int x1] (Pr l E (LM E b) σ)) (Qz E (LM E b) (some (.int r.1)) r.2) 0 0 (La (LM E b)) := by
  refine ct_of (by decide) (Nat.le_of_ble_eq_true rfl) ?_
  intro p e s m below meth c C hW hS ls hl
  have hx0 := C.1
  have hb := C.2.1
  have hl : lv_has ls 2 [(0, .ref (b + 0)), (1, .int x1)] := hl
  unfold fX12_fails at h
  refine lv_aload_n hx0 hb dX12_fails_0 rfl (lv_at hl 0 rfl) ?_
  refine lv_iload_n hx0 hb dX12_fails_1 rfl (lv_at hl 1 rfl) ?_
  refine ptX12_0 C hW hS flX12_3 dX12_fails_2 (fun H locs hW hS => ?_)
  refine lv_iconst (v := (0 : Int32)) hx0 hb dX12_fails_5 (by decide) ?_
  cases h
  exact w_iret C hW hS dX12_fails_6
def fX12_copies_l3 (o0 : Nat) (x1 : Int32) (o2 : Nat) (x3 : Int32) : Nat → Int32 → Mem → Option (Int32 × Mem)
  | 0, _, _ => none
  | n + 1, x4, σ => if (339 : Int32) ≤ x4 then (some (x4, σ)) else (if (x1 + x4) < 0 ∨ lm o0 ≤ (x1 + x4).toNatClampNeg then none else if (x3 + x4) < 0 ∨ lm o2 ≤ (x3 + x4).toNatClampNeg then none else fX12_copies_l3 o0 x1 o2 x3 n (x4 + (1 : Int32)) (up σ o2 (x3 + x4).toNatClampNeg (σ o0 (x1 + x4).toNatClampNeg)))
set_option maxRecDepth 100000 in
set_option maxHeartbeats 4000000 in
theorem bX12_copies_l3 {p : Program} {l : Launch} {e : Env} {s : State} {m : MethodId} {args : Array Value} {below : List Frame} {meth : Method} {c : Code} {E : Ev} {b : Nat} (C : Cx p l s m args meth c E cX12_copies 5 RX12 none) (o0 : Nat) (x1 : Int32) (o2 : Nat) (x3 : Int32) (ho0 : isI o0 = true) (ho2 : isI o2 = true) {Qf : State → Prop} {q : Int32 × Mem} (hx : ∀ H locs ls, Wd E (LM E b) q.2 H → va_S (La (LM E b)) s.heap H locs → lv_has ls 5 [(0, .ref (b + o0)), (1, .int x1), (2, .ref (b + o2)), (3, .int x3), (4, .int q.1)] → W p l e { frames := 0, cells := 0, slots := 0, locals := 0 } s m args below meth c H locs 0 0 Qf (F0 m 29 ls [])) : ∀ (n : Nat) (x4 : Int32) (σ : Mem), fX12_copies_l3 o0 x1 o2 x3 n x4 σ = some q → ∀ (H : Heap) (locs : List Loc) (ls : Array Slot), Wd E (LM E b) σ H → va_S (La (LM E b)) s.heap H locs → lv_has ls 5 [(0, .ref (b + o0)), (1, .int x1), (2, .ref (b + o2)), (3, .int x3), (4, .int x4)] → W p l e { frames := 0, cells := 0, slots := 0, locals := 0 } s m args below meth c H locs 0 0 Qf (F0 m 3 ls []) := by
  have hx0 := C.1
  have hb := C.2.1
  intro n
  induction n with
  | zero => intro x4 σ h; simp [fX12_copies_l3] at h
  | succ n ih =>
    intro x4 σ h H locs ls hW hS hl
    unfold fX12_copies_l3 at h
    refine lv_iload hx0 hb dX12_copies_3 (lv_at hl 4 rfl) ?_
    refine lv_sipush (v := (339 : Int32)) hx0 hb dX12_copies_5 (by decide) ?_
    refine lv_icmp_ge (tgt := 29) hx0 hb dX12_copies_8 (by decide) (fun c8 => ?_) (fun c8 => ?_)
    · rw [if_pos c8] at h
      cases h
      exact hx _ _ _ hW hS (lv_sub hl [0, 1, 2, 3, 4] rfl)
    · rw [if_neg c8] at h
      refine lv_aload_n hx0 hb dX12_copies_11 rfl (lv_at hl 2 rfl) ?_
      refine lv_iload_n hx0 hb dX12_copies_12 rfl (lv_at hl 3 rfl) ?_
      refine lv_iload hx0 hb dX12_copies_13 (lv_at hl 4 rfl) ?_
      refine lv_iadd hx0 hb dX12_copies_15 ?_
      refine lv_aload_n hx0 hb dX12_copies_16 rfl (lv_at hl 0 rfl) ?_
      refine lv_iload_n hx0 hb dX12_copies_17 rfl (lv_at hl 1 rfl) ?_
      refine lv_iload hx0 hb dX12_copies_18 (lv_at hl 4 rfl) ?_
      refine lv_iadd hx0 hb dX12_copies_20 ?_
      by_cases z21 : (x1 + x4) < 0 ∨ lm o0 ≤ (x1 + x4).toNatClampNeg
      · rw [if_pos z21] at h; cases h
      rw [if_neg z21] at h
      refine ldIm (k := o0) C hW ho0 z21 dX12_copies_21 ?_
      by_cases z22 : (x3 + x4) < 0 ∨ lm o2 ≤ (x3 + x4).toNatClampNeg
      · rw [if_pos z22] at h; cases h
      rw [if_neg z22] at h
      refine saIm (k := o2) C hW hS ho2 z22 dX12_copies_22 (fun H locs hW hS => ?_)
      refine lv_iinc (v := x4 + (1 : Int32)) (lv' := [(4, .int (x4 + (1 : Int32))), (0, .ref (b + o0)), (1, .int x1), (2, .ref (b + o2)), (3, .int x3)]) hx0 hb dX12_copies_23 hl (k := 4) rfl rfl (by decide) rfl (fun ls hl => ?_)
      refine lv_goto (tgt := 3) hx0 hb dX12_copies_26 (by decide) ?_
      exact ih (x4 + (1 : Int32)) (up σ o2 (x3 + x4).toNatClampNeg (σ o0 (x1 + x4).toNatClampNeg)) h _ _ _ hW hS (lv_sub hl [1, 2, 3, 4, 0] rfl)
def fX12_copies (o0 : Nat) (x1 : Int32) (o2 : Nat) (x3 : Int32) (σ : Mem) : Option Mem :=
  (fX12_copies_l3 o0 x1 o2 x3 FU (0 : Int32) σ).bind fun q3 => some q3.2
set_option maxRecDepth 100000 in
set_option maxHeartbeats 4000000 in
theorem mX12_copies {l : Launch} {E : Ev} {b : Nat} (o0 : Nat) (x1 : Int32) (o2 : Nat) (x3 : Int32) (ho0 : isI o0 = true) (ho2 : isI o2 = true) (σ : Mem) (r : Mem) (h : fX12_copies o0 x1 o2 x3 σ = some r) : Met l yX12_copies (tw yX12_copies cX12_copies 5 none) { frames := 0, cells := 0, slots := 0, locals := 0 } (va_Pc [.ref (b + o0), .int x1, .ref (b + o2), .int x3] (Pr l E (LM E b) σ)) (Qz E (LM E b) none r) 0 0 (La (LM E b)) := by
  refine ct_of (by decide) (Nat.le_of_ble_eq_true rfl) ?_
  intro p e s m below meth c C hW hS ls hl
  have hx0 := C.1
  have hb := C.2.1
  have hl : lv_has ls 5 [(0, .ref (b + o0)), (1, .int x1), (2, .ref (b + o2)), (3, .int x3)] := hl
  unfold fX12_copies at h
  refine lv_iconst (v := (0 : Int32)) hx0 hb dX12_copies_0 (by decide) ?_
  refine lv_istore (lv' := [(4, .int (0 : Int32)), (0, .ref (b + o0)), (1, .int x1), (2, .ref (b + o2)), (3, .int x3)]) hx0 hb dX12_copies_1 hl (by decide) rfl (fun ls hl => ?_)
  obtain ⟨q3, h3, h⟩ := bnd h
  try dsimp only at h
  refine bX12_copies_l3 C o0 x1 o2 x3 ho0 ho2 (q := q3) ?_ FU (0 : Int32) σ h3 _ _ _ hW hS (lv_sub hl [1, 2, 3, 4, 0] rfl)
  intro H locs ls hW hS hl
  cases h
  exact w_vret C hW hS dX12_copies_29
def fX12_begins_l10 : Nat → Int32 → Mem → Option (Int32 × Mem)
  | 0, _, _ => none
  | n + 1, x1, σ => if (8 : Int32) ≤ x1 then (some (x1, σ)) else (if x1 < 0 ∨ lm 2 ≤ x1.toNatClampNeg then none else if x1 < 0 ∨ lm 1 ≤ x1.toNatClampNeg then none else fX12_begins_l10 n (x1 + (1 : Int32)) (up σ 1 x1.toNatClampNeg (σ 2 x1.toNatClampNeg)))
set_option maxRecDepth 100000 in
set_option maxHeartbeats 4000000 in
theorem bX12_begins_l10 {p : Program} {l : Launch} {e : Env} {s : State} {m : MethodId} {args : Array Value} {below : List Frame} {meth : Method} {c : Code} {E : Ev} {b : Nat} (C : Cx p l s m args meth c E cX12_begins 2 RX12 none) {Qf : State → Prop} {q : Int32 × Mem} (hx : ∀ H locs ls, Wd E (LM E b) q.2 H → va_S (La (LM E b)) s.heap H locs → lv_has ls 2 [(0, .ref (b + 0)), (1, .int q.1)] → W p l e { frames := 1, cells := 0, slots := 0, locals := 24 } s m args below meth c H locs 0 0 Qf (F0 m 34 ls [])) : ∀ (n : Nat) (x1 : Int32) (σ : Mem), fX12_begins_l10 n x1 σ = some q → ∀ (H : Heap) (locs : List Loc) (ls : Array Slot), Wd E (LM E b) σ H → va_S (La (LM E b)) s.heap H locs → lv_has ls 2 [(0, .ref (b + 0)), (1, .int x1)] → W p l e { frames := 1, cells := 0, slots := 0, locals := 24 } s m args below meth c H locs 0 0 Qf (F0 m 10 ls []) := by
  have hx0 := C.1
  have hb := C.2.1
  intro n
  induction n with
  | zero => intro x1 σ h; simp [fX12_begins_l10] at h
  | succ n ih =>
    intro x1 σ h H locs ls hW hS hl
    unfold fX12_begins_l10 at h
    refine lv_iload_n hx0 hb dX12_begins_10 rfl (lv_at hl 1 rfl) ?_
    refine lv_bipush (v := (8 : Int32)) hx0 hb dX12_begins_11 (by decide) ?_
    refine lv_icmp_ge (tgt := 34) hx0 hb dX12_begins_13 (by decide) (fun c13 => ?_) (fun c13 => ?_)
    · rw [if_pos c13] at h
      cases h
      exact hx _ _ _ hW hS (lv_sub hl [0, 1] rfl)
    · rw [if_neg c13] at h
      refine lv_aload_n hx0 hb dX12_begins_16 rfl (lv_at hl 0 rfl) ?_
      refine gtX12_1 C hW flX12_13 dX12_begins_17 ?_
      refine lv_iload_n hx0 hb dX12_begins_20 rfl (lv_at hl 1 rfl) ?_
      refine lv_aload_n hx0 hb dX12_begins_21 rfl (lv_at hl 0 rfl) ?_
      refine gtX12_2 C hW flX12_17 dX12_begins_22 ?_
      refine lv_iload_n hx0 hb dX12_begins_25 rfl (lv_at hl 1 rfl) ?_
      by_cases z26 : x1 < 0 ∨ lm 2 ≤ x1.toNatClampNeg
      · rw [if_pos z26] at h; cases h
      rw [if_neg z26] at h
      refine ldIm (k := 2) C hW (by decide) z26 dX12_begins_26 ?_
      by_cases z27 : x1 < 0 ∨ lm 1 ≤ x1.toNatClampNeg
      · rw [if_pos z27] at h; cases h
      rw [if_neg z27] at h
      refine saIm (k := 1) C hW hS (by decide) z27 dX12_begins_27 (fun H locs hW hS => ?_)
      refine lv_iinc (v := x1 + (1 : Int32)) (lv' := [(1, .int (x1 + (1 : Int32))), (0, .ref (b + 0))]) hx0 hb dX12_begins_28 hl (k := 1) rfl rfl (by decide) rfl (fun ls hl => ?_)
      refine lv_goto (tgt := 10) hx0 hb dX12_begins_31 (by decide) ?_
      exact ih (x1 + (1 : Int32)) (up σ 1 x1.toNatClampNeg (σ 2 x1.toNatClampNeg)) h _ _ _ hW hS (lv_sub hl [1, 0] rfl)
def fX12_begins (σ : Mem) : Option Mem :=
  (fX12_begins_l10 FU (0 : Int32) (up σ 0 3 (σ 0 4))).bind fun q10 => (fX12_copies 4 (0 : Int32) 3 (0 : Int32) q10.2).bind fun v44 => some (up (up v44 0 9 (0 : Int32)) 0 10 (0 : Int32))
set_option maxRecDepth 100000 in
set_option maxHeartbeats 4000000 in
theorem mX12_begins {l : Launch} {E : Ev} {b : Nat} (σ : Mem) (r : Mem) (h : fX12_begins σ = some r) : Met l yX12_begins (tw yX12_begins cX12_begins 2 none) { frames := 1, cells := 0, slots := 0, locals := 24 } (va_Pc [.ref (b + 0)] (Pr l E (LM E b) σ)) (Qz E (LM E b) none r) 0 0 (La (LM E b)) := by
  refine ct_of (by decide) (Nat.le_of_ble_eq_true rfl) ?_
  intro p e s m below meth c C hW hS ls hl
  have hx0 := C.1
  have hb := C.2.1
  have hl : lv_has ls 2 [(0, .ref (b + 0))] := hl
  unfold fX12_begins at h
  refine lv_aload_n hx0 hb dX12_begins_0 rfl (lv_at hl 0 rfl) ?_
  refine lv_aload_n hx0 hb dX12_begins_1 rfl (lv_at hl 0 rfl) ?_
  refine gtX12_4 C hW flX12_67 dX12_begins_2 ?_
  refine ptX12_3 C hW hS flX12_73 dX12_begins_5 (fun H locs hW hS => ?_)
  refine lv_iconst (v := (0 : Int32)) hx0 hb dX12_begins_8 (by decide) ?_
  refine lv_istore_n (lv' := [(1, .int (0 : Int32)), (0, .ref (b + 0))]) hx0 hb dX12_begins_9 rfl hl (by decide) rfl (fun ls hl => ?_)
  obtain ⟨q10, h10, h⟩ := bnd h
  try dsimp only at h
  refine bX12_begins_l10 C   (q := q10) ?_ FU (0 : Int32) (up σ 0 3 (σ 0 4)) h10 _ _ _ hW hS (lv_sub hl [1, 0] rfl)
  intro H locs ls hW hS hl
  refine lv_aload_n hx0 hb dX12_begins_34 rfl (lv_at hl 0 rfl) ?_
  refine gtX12_6 C hW flX12_23 dX12_begins_35 ?_
  refine lv_iconst (v := (0 : Int32)) hx0 hb dX12_begins_38 (by decide) ?_
  refine lv_aload_n hx0 hb dX12_begins_39 rfl (lv_at hl 0 rfl) ?_
  refine gtX12_5 C hW flX12_20 dX12_begins_40 ?_
  refine lv_iconst (v := (0 : Int32)) hx0 hb dX12_begins_43 (by decide) ?_
  obtain ⟨v44, h44, h⟩ := bnd h
  try dsimp only at h
  refine w_callS (L := (LM E b)) (As := [.ref (b + 4), .int (0 : Int32), .ref (b + 3), .int (0 : Int32)]) (rest := []) C hW hS (mX12_copies 4 (0 : Int32) 3 (0 : Int32) (by decide) (by decide) q10.2 v44 h44) cwX12_copies csX12_copies mlX12_76 ⟨by decide, by decide⟩ rfl hl.1 (Nat.le_of_ble_eq_true rfl) ⟨by decide, by decide⟩ dX12_begins_44 rfl (fun H locs hW hS => ?_)
  refine lv_aload_n hx0 hb dX12_begins_47 rfl (lv_at hl 0 rfl) ?_
  refine lv_iconst (v := (0 : Int32)) hx0 hb dX12_begins_48 (by decide) ?_
  refine ptX12_9 C hW hS flX12_80 dX12_begins_49 (fun H locs hW hS => ?_)
  refine lv_aload_n hx0 hb dX12_begins_52 rfl (lv_at hl 0 rfl) ?_
  refine lv_iconst (v := (0 : Int32)) hx0 hb dX12_begins_53 (by decide) ?_
  refine ptX12_10 (Or.inl rfl) C hW hS flX12_83 dX12_begins_54 (fun H locs hW hS => ?_)
  cases h
  exact w_vret C hW hS dX12_begins_57
def fX12_remembers_j50 (σ : Mem) : Option (Mem) :=
  (fX12_copies 3 (0 : Int32) 6 ((339 : Int32) * (σ 0 9)) σ).bind fun v67 => some (up v67 0 9 ((v67 0 9) + (1 : Int32)))
set_option maxRecDepth 100000 in
set_option maxHeartbeats 4000000 in
theorem bX12_remembers_j50 {p : Program} {l : Launch} {e : Env} {s : State} {m : MethodId} {args : Array Value} {below : List Frame} {meth : Method} {c : Code} {E : Ev} {b : Nat} (C : Cx p l s m args meth c E cX12_remembers 2 RX12 none) {r : Mem} (σ : Mem) (h : fX12_remembers_j50 σ = some r) (H : Heap) (locs : List Loc) (ls : Array Slot) (hW : Wd E (LM E b) σ H) (hS : va_S (La (LM E b)) s.heap H locs) (hl : lv_has ls 2 [(0, .ref (b + 0))]) : W p l e { frames := 1, cells := 0, slots := 0, locals := 24 } s m args below meth c H locs 0 0 (MQ below (Qz E (LM E b) none r) args s 0 0 (La (LM E b))) (F0 m 50 ls []) := by
  have hx0 := C.1
  have hb := C.2.1
  unfold fX12_remembers_j50 at h
  refine lv_aload_n hx0 hb dX12_remembers_50 rfl (lv_at hl 0 rfl) ?_
  refine gtX12_5 C hW flX12_20 dX12_remembers_51 ?_
  refine lv_iconst (v := (0 : Int32)) hx0 hb dX12_remembers_54 (by decide) ?_
  refine lv_aload_n hx0 hb dX12_remembers_55 rfl (lv_at hl 0 rfl) ?_
  refine gtX12_8 C hW flX12_29 dX12_remembers_56 ?_
  refine lv_sipush (v := (339 : Int32)) hx0 hb dX12_remembers_59 (by decide) ?_
  refine lv_aload_n hx0 hb dX12_remembers_62 rfl (lv_at hl 0 rfl) ?_
  refine gtX12_9 C hW flX12_80 dX12_remembers_63 ?_
  refine lv_imul hx0 hb dX12_remembers_66 ?_
  obtain ⟨v67, h67, h⟩ := bnd h
  try dsimp only at h
  refine w_callS (L := (LM E b)) (As := [.ref (b + 3), .int (0 : Int32), .ref (b + 6), .int ((339 : Int32) * (σ 0 9))]) (rest := []) C hW hS (mX12_copies 3 (0 : Int32) 6 ((339 : Int32) * (σ 0 9)) (by decide) (by decide) σ v67 h67) cwX12_copies csX12_copies mlX12_76 ⟨by decide, by decide⟩ rfl hl.1 (Nat.le_of_ble_eq_true rfl) ⟨by decide, by decide⟩ dX12_remembers_67 rfl (fun H locs hW hS => ?_)
  refine lv_aload_n hx0 hb dX12_remembers_70 rfl (lv_at hl 0 rfl) ?_
  refine lv_dup hx0 hb dX12_remembers_71 rfl ?_
  refine gtX12_9 C hW flX12_80 dX12_remembers_72 ?_
  refine lv_iconst (v := (1 : Int32)) hx0 hb dX12_remembers_75 (by decide) ?_
  refine lv_iadd hx0 hb dX12_remembers_76 ?_
  refine ptX12_9 C hW hS flX12_80 dX12_remembers_77 (fun H locs hW hS => ?_)
  cases h
  exact w_vret C hW hS dX12_remembers_80
def fX12_remembers_l11 : Nat → Int32 → Mem → Option (Int32 × Mem)
  | 0, _, _ => none
  | n + 1, x1, σ => if (2373 : Int32) ≤ x1 then (some (x1, σ)) else (if (x1 + (339 : Int32)) < 0 ∨ lm 6 ≤ (x1 + (339 : Int32)).toNatClampNeg then none else if x1 < 0 ∨ lm 6 ≤ x1.toNatClampNeg then none else fX12_remembers_l11 n (x1 + (1 : Int32)) (up σ 6 x1.toNatClampNeg (σ 6 (x1 + (339 : Int32)).toNatClampNeg)))
set_option maxRecDepth 100000 in
set_option maxHeartbeats 4000000 in
theorem bX12_remembers_l11 {p : Program} {l : Launch} {e : Env} {s : State} {m : MethodId} {args : Array Value} {below : List Frame} {meth : Method} {c : Code} {E : Ev} {b : Nat} (C : Cx p l s m args meth c E cX12_remembers 2 RX12 none) {Qf : State → Prop} {q : Int32 × Mem} (hx : ∀ H locs ls, Wd E (LM E b) q.2 H → va_S (La (LM E b)) s.heap H locs → lv_has ls 2 [(0, .ref (b + 0)), (1, .int q.1)] → W p l e { frames := 1, cells := 0, slots := 0, locals := 24 } s m args below meth c H locs 0 0 Qf (F0 m 40 ls [])) : ∀ (n : Nat) (x1 : Int32) (σ : Mem), fX12_remembers_l11 n x1 σ = some q → ∀ (H : Heap) (locs : List Loc) (ls : Array Slot), Wd E (LM E b) σ H → va_S (La (LM E b)) s.heap H locs → lv_has ls 2 [(0, .ref (b + 0)), (1, .int x1)] → W p l e { frames := 1, cells := 0, slots := 0, locals := 24 } s m args below meth c H locs 0 0 Qf (F0 m 11 ls []) := by
  have hx0 := C.1
  have hb := C.2.1
  intro n
  induction n with
  | zero => intro x1 σ h; simp [fX12_remembers_l11] at h
  | succ n ih =>
    intro x1 σ h H locs ls hW hS hl
    unfold fX12_remembers_l11 at h
    refine lv_iload_n hx0 hb dX12_remembers_11 rfl (lv_at hl 1 rfl) ?_
    refine lv_sipush (v := (2373 : Int32)) hx0 hb dX12_remembers_12 (by decide) ?_
    refine lv_icmp_ge (tgt := 40) hx0 hb dX12_remembers_15 (by decide) (fun c15 => ?_) (fun c15 => ?_)
    · rw [if_pos c15] at h
      cases h
      exact hx _ _ _ hW hS (lv_sub hl [0, 1] rfl)
    · rw [if_neg c15] at h
      refine lv_aload_n hx0 hb dX12_remembers_18 rfl (lv_at hl 0 rfl) ?_
      refine gtX12_8 C hW flX12_29 dX12_remembers_19 ?_
      refine lv_iload_n hx0 hb dX12_remembers_22 rfl (lv_at hl 1 rfl) ?_
      refine lv_aload_n hx0 hb dX12_remembers_23 rfl (lv_at hl 0 rfl) ?_
      refine gtX12_8 C hW flX12_29 dX12_remembers_24 ?_
      refine lv_iload_n hx0 hb dX12_remembers_27 rfl (lv_at hl 1 rfl) ?_
      refine lv_sipush (v := (339 : Int32)) hx0 hb dX12_remembers_28 (by decide) ?_
      refine lv_iadd hx0 hb dX12_remembers_31 ?_
      by_cases z32 : (x1 + (339 : Int32)) < 0 ∨ lm 6 ≤ (x1 + (339 : Int32)).toNatClampNeg
      · rw [if_pos z32] at h; cases h
      rw [if_neg z32] at h
      refine ldIm (k := 6) C hW (by decide) z32 dX12_remembers_32 ?_
      by_cases z33 : x1 < 0 ∨ lm 6 ≤ x1.toNatClampNeg
      · rw [if_pos z33] at h; cases h
      rw [if_neg z33] at h
      refine saIm (k := 6) C hW hS (by decide) z33 dX12_remembers_33 (fun H locs hW hS => ?_)
      refine lv_iinc (v := x1 + (1 : Int32)) (lv' := [(1, .int (x1 + (1 : Int32))), (0, .ref (b + 0))]) hx0 hb dX12_remembers_34 hl (k := 1) rfl rfl (by decide) rfl (fun ls hl => ?_)
      refine lv_goto (tgt := 11) hx0 hb dX12_remembers_37 (by decide) ?_
      exact ih (x1 + (1 : Int32)) (up σ 6 x1.toNatClampNeg (σ 6 (x1 + (339 : Int32)).toNatClampNeg)) h _ _ _ hW hS (lv_sub hl [1, 0] rfl)
def fX12_remembers (σ : Mem) : Option Mem :=
  if (σ 0 9) = (8 : Int32) then ((fX12_remembers_l11 FU (0 : Int32) σ).bind fun q11 => fX12_remembers_j50 (up q11.2 0 9 ((q11.2 0 9) - (1 : Int32)))) else (fX12_remembers_j50 σ)
set_option maxRecDepth 100000 in
set_option maxHeartbeats 4000000 in
theorem mX12_remembers {l : Launch} {E : Ev} {b : Nat} (σ : Mem) (r : Mem) (h : fX12_remembers σ = some r) : Met l yX12_remembers (tw yX12_remembers cX12_remembers 2 none) { frames := 1, cells := 0, slots := 0, locals := 24 } (va_Pc [.ref (b + 0)] (Pr l E (LM E b) σ)) (Qz E (LM E b) none r) 0 0 (La (LM E b)) := by
  refine ct_of (by decide) (Nat.le_of_ble_eq_true rfl) ?_
  intro p e s m below meth c C hW hS ls hl
  have hx0 := C.1
  have hb := C.2.1
  have hl : lv_has ls 2 [(0, .ref (b + 0))] := hl
  unfold fX12_remembers at h
  refine lv_aload_n hx0 hb dX12_remembers_0 rfl (lv_at hl 0 rfl) ?_
  refine gtX12_9 C hW flX12_80 dX12_remembers_1 ?_
  refine lv_bipush (v := (8 : Int32)) hx0 hb dX12_remembers_4 (by decide) ?_
  refine lv_icmp_ne (tgt := 50) hx0 hb dX12_remembers_6 (by decide) (fun c6 => ?_) (fun c6 => ?_)
  · rw [if_neg c6] at h
    exact bX12_remembers_j50 C σ h _ _ _ hW hS (lv_sub hl [0] rfl)
  · rw [if_pos c6] at h
    refine lv_iconst (v := (0 : Int32)) hx0 hb dX12_remembers_9 (by decide) ?_
    refine lv_istore_n (lv' := [(1, .int (0 : Int32)), (0, .ref (b + 0))]) hx0 hb dX12_remembers_10 rfl hl (by decide) rfl (fun ls hl => ?_)
    obtain ⟨q11, h11, h⟩ := bnd h
    try dsimp only at h
    refine bX12_remembers_l11 C   (q := q11) ?_ FU (0 : Int32) σ h11 _ _ _ hW hS (lv_sub hl [1, 0] rfl)
    intro H locs ls hW hS hl
    refine lv_aload_n hx0 hb dX12_remembers_40 rfl (lv_at hl 0 rfl) ?_
    refine lv_dup hx0 hb dX12_remembers_41 rfl ?_
    refine gtX12_9 C hW flX12_80 dX12_remembers_42 ?_
    refine lv_iconst (v := (1 : Int32)) hx0 hb dX12_remembers_45 (by decide) ?_
    refine lv_isub hx0 hb dX12_remembers_46 ?_
    refine ptX12_9 C hW hS flX12_80 dX12_remembers_47 (fun H locs hW hS => ?_)
    exact bX12_remembers_j50 C (up q11.2 0 9 ((q11.2 0 9) - (1 : Int32))) h _ _ _ hW hS (lv_sub hl [0] rfl)
def fX12_bytesOf_l4 (x0 : Int32) : Nat → Int32 → Int32 → Mem → Option (Int32 × Int32)
  | 0, _, _, _ => none
  | n + 1, x1, x2, σ => if (4 : Int32) ≤ x2 then (some (x1, x2)) else (if ((x0 >>> (((8 : Int32) * x2) &&& 31)) &&& (255 : Int32)) = 0 then (fX12_bytesOf_l4 x0 n (x1 + (0 : Int32)) (x2 + (1 : Int32)) σ) else (fX12_bytesOf_l4 x0 n (x1 + (1 : Int32)) (x2 + (1 : Int32)) σ))
set_option maxRecDepth 100000 in
set_option maxHeartbeats 4000000 in
theorem bX12_bytesOf_l4 {p : Program} {l : Launch} {e : Env} {s : State} {m : MethodId} {args : Array Value} {below : List Frame} {meth : Method} {c : Code} {E : Ev} {b : Nat} (C : Cx p l s m args meth c E cX12_bytesOf 3 RX12 (some .int)) (x0 : Int32) (σ : Mem) {Qf : State → Prop} {q : Int32 × Int32} (hx : ∀ H locs ls, Wd E (LM E b) σ H → va_S (La (LM E b)) s.heap H locs → lv_has ls 3 [(0, .int x0), (1, .int q.1), (2, .int q.2)] → W p l e { frames := 0, cells := 0, slots := 0, locals := 0 } s m args below meth c H locs 0 0 Qf (F0 m 36 ls [])) : ∀ (n : Nat) (x1 : Int32) (x2 : Int32), fX12_bytesOf_l4 x0 n x1 x2 σ = some q → ∀ (H : Heap) (locs : List Loc) (ls : Array Slot), Wd E (LM E b) σ H → va_S (La (LM E b)) s.heap H locs → lv_has ls 3 [(0, .int x0), (1, .int x1), (2, .int x2)] → W p l e { frames := 0, cells := 0, slots := 0, locals := 0 } s m args below meth c H locs 0 0 Qf (F0 m 4 ls []) := by
  have hx0 := C.1
  have hb := C.2.1
  intro n
  induction n with
  | zero => intro x1 x2 h; simp [fX12_bytesOf_l4] at h
  | succ n ih =>
    intro x1 x2 h H locs ls hW hS hl
    unfold fX12_bytesOf_l4 at h
    refine lv_iload_n hx0 hb dX12_bytesOf_4 rfl (lv_at hl 2 rfl) ?_
    refine lv_iconst (v := (4 : Int32)) hx0 hb dX12_bytesOf_5 (by decide) ?_
    refine lv_icmp_ge (tgt := 36) hx0 hb dX12_bytesOf_6 (by decide) (fun c6 => ?_) (fun c6 => ?_)
    · rw [if_pos c6] at h
      cases h
      exact hx _ _ _ hW hS (lv_sub hl [0, 1, 2] rfl)
    · rw [if_neg c6] at h
      refine lv_iload_n hx0 hb dX12_bytesOf_9 rfl (lv_at hl 1 rfl) ?_
      refine lv_iload_n hx0 hb dX12_bytesOf_10 rfl (lv_at hl 0 rfl) ?_
      refine lv_bipush (v := (8 : Int32)) hx0 hb dX12_bytesOf_11 (by decide) ?_
      refine lv_iload_n hx0 hb dX12_bytesOf_13 rfl (lv_at hl 2 rfl) ?_
      refine lv_imul hx0 hb dX12_bytesOf_14 ?_
      refine lv_ishr hx0 hb dX12_bytesOf_15 ?_
      refine lv_sipush (v := (255 : Int32)) hx0 hb dX12_bytesOf_16 (by decide) ?_
      refine lv_iand hx0 hb dX12_bytesOf_19 ?_
      refine lv_if_ne (tgt := 27) hx0 hb dX12_bytesOf_20 (by decide) (fun c20 => ?_) (fun c20 => ?_)
      · rw [if_neg c20] at h
        refine lv_iconst (v := (1 : Int32)) hx0 hb dX12_bytesOf_27 (by decide) ?_
        refine lv_iadd hx0 hb dX12_bytesOf_28 ?_
        refine lv_istore_n (lv' := [(1, .int (x1 + (1 : Int32))), (0, .int x0), (2, .int x2)]) hx0 hb dX12_bytesOf_29 rfl hl (by decide) rfl (fun ls hl => ?_)
        refine lv_iinc (v := x2 + (1 : Int32)) (lv' := [(2, .int (x2 + (1 : Int32))), (1, .int (x1 + (1 : Int32))), (0, .int x0)]) hx0 hb dX12_bytesOf_30 hl (k := 2) rfl rfl (by decide) rfl (fun ls hl => ?_)
        refine lv_goto (tgt := 4) hx0 hb dX12_bytesOf_33 (by decide) ?_
        exact ih (x1 + (1 : Int32)) (x2 + (1 : Int32)) h _ _ _ hW hS (lv_sub hl [2, 1, 0] rfl)
      · rw [if_pos c20] at h
        refine lv_iconst (v := (0 : Int32)) hx0 hb dX12_bytesOf_23 (by decide) ?_
        refine lv_goto (tgt := 28) hx0 hb dX12_bytesOf_24 (by decide) ?_
        refine lv_iadd hx0 hb dX12_bytesOf_28 ?_
        refine lv_istore_n (lv' := [(1, .int (x1 + (0 : Int32))), (0, .int x0), (2, .int x2)]) hx0 hb dX12_bytesOf_29 rfl hl (by decide) rfl (fun ls hl => ?_)
        refine lv_iinc (v := x2 + (1 : Int32)) (lv' := [(2, .int (x2 + (1 : Int32))), (1, .int (x1 + (0 : Int32))), (0, .int x0)]) hx0 hb dX12_bytesOf_30 hl (k := 2) rfl rfl (by decide) rfl (fun ls hl => ?_)
        refine lv_goto (tgt := 4) hx0 hb dX12_bytesOf_33 (by decide) ?_
        exact ih (x1 + (0 : Int32)) (x2 + (1 : Int32)) h _ _ _ hW hS (lv_sub hl [2, 1, 0] rfl)
def fX12_bytesOf (x0 : Int32) (σ : Mem) : Option Int32 :=
  (fX12_bytesOf_l4 x0 FU (0 : Int32) (0 : Int32) σ).bind fun q4 => some q4.1
set_option maxRecDepth 100000 in
set_option maxHeartbeats 4000000 in
theorem mX12_bytesOf {l : Launch} {E : Ev} {b : Nat} (x0 : Int32) (σ : Mem) (r : Int32) (h : fX12_bytesOf x0 σ = some r) : Met l yX12_bytesOf (tw yX12_bytesOf cX12_bytesOf 3 (some .int)) { frames := 0, cells := 0, slots := 0, locals := 0 } (va_Pc [.int x0] (Pr l E (LM E b) σ)) (Qz E (LM E b) (some (.int r)) σ) 0 0 (La (LM E b)) := by
  refine ct_of (by decide) (Nat.le_of_ble_eq_true rfl) ?_
  intro p e s m below meth c C hW hS ls hl
  have hx0 := C.1
  have hb := C.2.1
  have hl : lv_has ls 3 [(0, .int x0)] := hl
  unfold fX12_bytesOf at h
  refine lv_iconst (v := (0 : Int32)) hx0 hb dX12_bytesOf_0 (by decide) ?_
  refine lv_istore_n (lv' := [(1, .int (0 : Int32)), (0, .int x0)]) hx0 hb dX12_bytesOf_1 rfl hl (by decide) rfl (fun ls hl => ?_)
  refine lv_iconst (v := (0 : Int32)) hx0 hb dX12_bytesOf_2 (by decide) ?_
  refine lv_istore_n (lv' := [(2, .int (0 : Int32)), (1, .int (0 : Int32)), (0, .int x0)]) hx0 hb dX12_bytesOf_3 rfl hl (by decide) rfl (fun ls hl => ?_)
  obtain ⟨q4, h4, h⟩ := bnd h
  try dsimp only at h
  refine bX12_bytesOf_l4 C x0  σ (q := q4) ?_ FU (0 : Int32) (0 : Int32) h4 _ _ _ hW hS (lv_sub hl [2, 1, 0] rfl)
  intro H locs ls hW hS hl
  refine lv_iload_n hx0 hb dX12_bytesOf_36 rfl (lv_at hl 1 rfl) ?_
  cases h
  exact w_iret C hW hS dX12_bytesOf_37
def fX12_brings_l3 (x1 : Int32) : Nat → Int32 → Mem → Option (Int32 × Mem)
  | 0, _, _ => none
  | n + 1, x2, σ => if x2 < 0 then (some (x2, σ)) else (if ((x1 >>> (x2 &&& 31)) &&& (255 : Int32)) = 0 then (fX12_brings_l3 x1 n (x2 + (-8 : Int32)) σ) else (if (σ 0 12) < 0 ∨ lm 7 ≤ (σ 0 12).toNatClampNeg then none else fX12_brings_l3 x1 n (x2 + (-8 : Int32)) (up (up σ 7 (σ 0 12).toNatClampNeg (vp_nar .byte (((x1 >>> (x2 &&& 31)) &&& (255 : Int32)).toInt8.toInt32))) 0 12 (((up σ 7 (σ 0 12).toNatClampNeg (vp_nar .byte (((x1 >>> (x2 &&& 31)) &&& (255 : Int32)).toInt8.toInt32))) 0 12) + (1 : Int32)))))
set_option maxRecDepth 100000 in
set_option maxHeartbeats 4000000 in
theorem bX12_brings_l3 {p : Program} {l : Launch} {e : Env} {s : State} {m : MethodId} {args : Array Value} {below : List Frame} {meth : Method} {c : Code} {E : Ev} {b : Nat} (C : Cx p l s m args meth c E cX12_brings 4 RX12 none) (x1 : Int32) {Qf : State → Prop} {q : Int32 × Mem} (hx : ∀ H locs ls, Wd E (LM E b) q.2 H → va_S (La (LM E b)) s.heap H locs → lv_has ls 4 [(0, .ref (b + 0)), (1, .int x1), (2, .int q.1)] → W p l e { frames := 0, cells := 0, slots := 0, locals := 0 } s m args below meth c H locs 0 0 Qf (F0 m 46 ls [])) : ∀ (n : Nat) (x2 : Int32) (σ : Mem), fX12_brings_l3 x1 n x2 σ = some q → ∀ (H : Heap) (locs : List Loc) (ls : Array Slot), Wd E (LM E b) σ H → va_S (La (LM E b)) s.heap H locs → lv_has ls 4 [(0, .ref (b + 0)), (1, .int x1), (2, .int x2)] → W p l e { frames := 0, cells := 0, slots := 0, locals := 0 } s m args below meth c H locs 0 0 Qf (F0 m 3 ls []) := by
  have hx0 := C.1
  have hb := C.2.1
  intro n
  induction n with
  | zero => intro x2 σ h; simp [fX12_brings_l3] at h
  | succ n ih =>
    intro x2 σ h H locs ls hW hS hl
    unfold fX12_brings_l3 at h
    refine lv_iload_n hx0 hb dX12_brings_3 rfl (lv_at hl 2 rfl) ?_
    refine lv_if_lt (tgt := 46) hx0 hb dX12_brings_4 (by decide) (fun c4 => ?_) (fun c4 => ?_)
    · rw [if_pos c4] at h
      cases h
      exact hx _ _ _ hW hS (lv_sub hl [0, 1, 2] rfl)
    · rw [if_neg c4] at h
      refine lv_iload_n hx0 hb dX12_brings_7 rfl (lv_at hl 1 rfl) ?_
      refine lv_iload_n hx0 hb dX12_brings_8 rfl (lv_at hl 2 rfl) ?_
      refine lv_ishr hx0 hb dX12_brings_9 ?_
      refine lv_sipush (v := (255 : Int32)) hx0 hb dX12_brings_10 (by decide) ?_
      refine lv_iand hx0 hb dX12_brings_13 ?_
      refine lv_istore_n (lv' := [(3, .int ((x1 >>> (x2 &&& 31)) &&& (255 : Int32))), (0, .ref (b + 0)), (1, .int x1), (2, .int x2)]) hx0 hb dX12_brings_14 rfl hl (by decide) rfl (fun ls hl => ?_)
      refine lv_iload_n hx0 hb dX12_brings_15 rfl (lv_at hl 0 rfl) ?_
      refine lv_if_eq (tgt := 40) hx0 hb dX12_brings_16 (by decide) (fun c16 => ?_) (fun c16 => ?_)
      · rw [if_pos c16] at h
        refine lv_iinc (v := x2 + (-8 : Int32)) (lv' := [(2, .int (x2 + (-8 : Int32))), (3, .int ((x1 >>> (x2 &&& 31)) &&& (255 : Int32))), (0, .ref (b + 0)), (1, .int x1)]) hx0 hb dX12_brings_40 hl (k := 3) rfl rfl (by decide) rfl (fun ls hl => ?_)
        refine lv_goto (tgt := 3) hx0 hb dX12_brings_43 (by decide) ?_
        exact ih (x2 + (-8 : Int32)) σ h _ _ _ hW hS (lv_sub hl [2, 3, 0] rfl)
      · rw [if_neg c16] at h
        refine lv_aload_n hx0 hb dX12_brings_19 rfl (lv_at hl 1 rfl) ?_
        refine gtX12_11 C hW flX12_32 dX12_brings_20 ?_
        refine lv_aload_n hx0 hb dX12_brings_23 rfl (lv_at hl 1 rfl) ?_
        refine gtX12_12 C hW flX12_87 dX12_brings_24 ?_
        refine lv_iload_n hx0 hb dX12_brings_27 rfl (lv_at hl 0 rfl) ?_
        refine lv_i2b hx0 hb dX12_brings_28 rfl ?_
        by_cases z29 : (σ 0 12) < 0 ∨ lm 7 ≤ (σ 0 12).toNatClampNeg
        · rw [if_pos z29] at h; cases h
        rw [if_neg z29] at h
        refine saBm (k := 7) C hW hS (by decide) z29 dX12_brings_29 (fun H locs hW hS => ?_)
        refine lv_aload_n hx0 hb dX12_brings_30 rfl (lv_at hl 1 rfl) ?_
        refine lv_dup hx0 hb dX12_brings_31 rfl ?_
        refine gtX12_12 C hW flX12_87 dX12_brings_32 ?_
        refine lv_iconst (v := (1 : Int32)) hx0 hb dX12_brings_35 (by decide) ?_
        refine lv_iadd hx0 hb dX12_brings_36 ?_
        refine ptX12_12 C hW hS flX12_87 dX12_brings_37 (fun H locs hW hS => ?_)
        refine lv_iinc (v := x2 + (-8 : Int32)) (lv' := [(2, .int (x2 + (-8 : Int32))), (3, .int ((x1 >>> (x2 &&& 31)) &&& (255 : Int32))), (0, .ref (b + 0)), (1, .int x1)]) hx0 hb dX12_brings_40 hl (k := 3) rfl rfl (by decide) rfl (fun ls hl => ?_)
        refine lv_goto (tgt := 3) hx0 hb dX12_brings_43 (by decide) ?_
        exact ih (x2 + (-8 : Int32)) (up (up σ 7 (σ 0 12).toNatClampNeg (vp_nar .byte (((x1 >>> (x2 &&& 31)) &&& (255 : Int32)).toInt8.toInt32))) 0 12 (((up σ 7 (σ 0 12).toNatClampNeg (vp_nar .byte (((x1 >>> (x2 &&& 31)) &&& (255 : Int32)).toInt8.toInt32))) 0 12) + (1 : Int32))) h _ _ _ hW hS (lv_sub hl [2, 3, 0] rfl)
def fX12_brings (x1 : Int32) (σ : Mem) : Option Mem :=
  (fX12_brings_l3 x1 FU (24 : Int32) σ).bind fun q3 => some q3.2
set_option maxRecDepth 100000 in
set_option maxHeartbeats 4000000 in
theorem mX12_brings {l : Launch} {E : Ev} {b : Nat} (x1 : Int32) (σ : Mem) (r : Mem) (h : fX12_brings x1 σ = some r) : Met l yX12_brings (tw yX12_brings cX12_brings 4 none) { frames := 0, cells := 0, slots := 0, locals := 0 } (va_Pc [.ref (b + 0), .int x1] (Pr l E (LM E b) σ)) (Qz E (LM E b) none r) 0 0 (La (LM E b)) := by
  refine ct_of (by decide) (Nat.le_of_ble_eq_true rfl) ?_
  intro p e s m below meth c C hW hS ls hl
  have hx0 := C.1
  have hb := C.2.1
  have hl : lv_has ls 4 [(0, .ref (b + 0)), (1, .int x1)] := hl
  unfold fX12_brings at h
  refine lv_bipush (v := (24 : Int32)) hx0 hb dX12_brings_0 (by decide) ?_
  refine lv_istore_n (lv' := [(2, .int (24 : Int32)), (0, .ref (b + 0)), (1, .int x1)]) hx0 hb dX12_brings_2 rfl hl (by decide) rfl (fun ls hl => ?_)
  obtain ⟨q3, h3, h⟩ := bnd h
  try dsimp only at h
  refine bX12_brings_l3 C x1  (q := q3) ?_ FU (24 : Int32) σ h3 _ _ _ hW hS (lv_sub hl [1, 2, 0] rfl)
  intro H locs ls hW hS hl
  cases h
  exact w_vret C hW hS dX12_brings_46
def fX12_append (x1 : Int32) (x2 : Int32) (x3 : Int32) (x4 : Int32) (x5 : Int32) (σ : Mem) : Option (Int32 × Mem) :=
  (fX12_bytesOf x1 (up σ 0 0 (0 : Int32))).bind fun v10 => (fX12_bytesOf x2 (up σ 0 0 (0 : Int32))).bind fun v15 => (fX12_bytesOf x3 (up σ 0 0 (0 : Int32))).bind fun v20 => (fX12_bytesOf x4 (up σ 0 0 (0 : Int32))).bind fun v26 => (fX12_bytesOf x5 (up σ 0 0 (0 : Int32))).bind fun v32 => if (((((((up σ 0 0 (0 : Int32)) 0 12) + v10) + v15) + v20) + v26) + v32) ≤ (600 : Int32) then ((fX12_brings x1 (up σ 0 0 (0 : Int32))).bind fun v50 => (fX12_brings x2 v50).bind fun v55 => (fX12_brings x3 v55).bind fun v60 => (fX12_brings x4 v60).bind fun v66 => (fX12_brings x5 v66).bind fun v72 => some (v72 0 12, v72)) else ((fX12_fails (1 : Int32) (up σ 0 0 (0 : Int32))).bind fun v44 => some (v44.1, v44.2))
set_option maxRecDepth 100000 in
set_option maxHeartbeats 4000000 in
theorem mX12_append {l : Launch} {E : Ev} {b : Nat} (x1 : Int32) (x2 : Int32) (x3 : Int32) (x4 : Int32) (x5 : Int32) (σ : Mem) (r : (Int32 × Mem)) (h : fX12_append x1 x2 x3 x4 x5 σ = some r) : Met l yX12_append (tw yX12_append cX12_append 6 (some .int)) { frames := 1, cells := 0, slots := 0, locals := 23 } (va_Pc [.ref (b + 0), .int x1, .int x2, .int x3, .int x4, .int x5] (Pr l E (LM E b) σ)) (Qz E (LM E b) (some (.int r.1)) r.2) 0 0 (La (LM E b)) := by
  refine ct_of (by decide) (Nat.le_of_ble_eq_true rfl) ?_
  intro p e s m below meth c C hW hS ls hl
  have hx0 := C.1
  have hb := C.2.1
  have hl : lv_has ls 6 [(0, .ref (b + 0)), (1, .int x1), (2, .int x2), (3, .int x3), (4, .int x4), (5, .int x5)] := hl
  unfold fX12_append at h
  refine lv_aload_n hx0 hb dX12_append_0 rfl (lv_at hl 0 rfl) ?_
  refine lv_iconst (v := (0 : Int32)) hx0 hb dX12_append_1 (by decide) ?_
  refine ptX12_0 C hW hS flX12_3 dX12_append_2 (fun H locs hW hS => ?_)
  refine lv_aload_n hx0 hb dX12_append_5 rfl (lv_at hl 0 rfl) ?_
  refine gtX12_12 C hW flX12_87 dX12_append_6 ?_
  refine lv_iload_n hx0 hb dX12_append_9 rfl (lv_at hl 1 rfl) ?_
  obtain ⟨v10, h10, h⟩ := bnd h
  try dsimp only at h
  refine w_callS (L := (LM E b)) (As := [.int x1]) (rest := [.int ((up σ 0 0 (0 : Int32)) 0 12)]) C hW hS (mX12_bytesOf x1  (up σ 0 0 (0 : Int32)) v10 h10) cwX12_bytesOf csX12_bytesOf mlX12_90 ⟨by decide, by decide⟩ rfl hl.1 (Nat.le_of_ble_eq_true rfl) ⟨by decide, by decide⟩ dX12_append_10 rfl (fun H locs hW hS => ?_)
  refine lv_iadd hx0 hb dX12_append_13 ?_
  refine lv_iload_n hx0 hb dX12_append_14 rfl (lv_at hl 2 rfl) ?_
  obtain ⟨v15, h15, h⟩ := bnd h
  try dsimp only at h
  refine w_callS (L := (LM E b)) (As := [.int x2]) (rest := [.int (((up σ 0 0 (0 : Int32)) 0 12) + v10)]) C hW hS (mX12_bytesOf x2  (up σ 0 0 (0 : Int32)) v15 h15) cwX12_bytesOf csX12_bytesOf mlX12_90 ⟨by decide, by decide⟩ rfl hl.1 (Nat.le_of_ble_eq_true rfl) ⟨by decide, by decide⟩ dX12_append_15 rfl (fun H locs hW hS => ?_)
  refine lv_iadd hx0 hb dX12_append_18 ?_
  refine lv_iload_n hx0 hb dX12_append_19 rfl (lv_at hl 3 rfl) ?_
  obtain ⟨v20, h20, h⟩ := bnd h
  try dsimp only at h
  refine w_callS (L := (LM E b)) (As := [.int x3]) (rest := [.int ((((up σ 0 0 (0 : Int32)) 0 12) + v10) + v15)]) C hW hS (mX12_bytesOf x3  (up σ 0 0 (0 : Int32)) v20 h20) cwX12_bytesOf csX12_bytesOf mlX12_90 ⟨by decide, by decide⟩ rfl hl.1 (Nat.le_of_ble_eq_true rfl) ⟨by decide, by decide⟩ dX12_append_20 rfl (fun H locs hW hS => ?_)
  refine lv_iadd hx0 hb dX12_append_23 ?_
  refine lv_iload hx0 hb dX12_append_24 (lv_at hl 4 rfl) ?_
  obtain ⟨v26, h26, h⟩ := bnd h
  try dsimp only at h
  refine w_callS (L := (LM E b)) (As := [.int x4]) (rest := [.int (((((up σ 0 0 (0 : Int32)) 0 12) + v10) + v15) + v20)]) C hW hS (mX12_bytesOf x4  (up σ 0 0 (0 : Int32)) v26 h26) cwX12_bytesOf csX12_bytesOf mlX12_90 ⟨by decide, by decide⟩ rfl hl.1 (Nat.le_of_ble_eq_true rfl) ⟨by decide, by decide⟩ dX12_append_26 rfl (fun H locs hW hS => ?_)
  refine lv_iadd hx0 hb dX12_append_29 ?_
  refine lv_iload hx0 hb dX12_append_30 (lv_at hl 5 rfl) ?_
  obtain ⟨v32, h32, h⟩ := bnd h
  try dsimp only at h
  refine w_callS (L := (LM E b)) (As := [.int x5]) (rest := [.int ((((((up σ 0 0 (0 : Int32)) 0 12) + v10) + v15) + v20) + v26)]) C hW hS (mX12_bytesOf x5  (up σ 0 0 (0 : Int32)) v32 h32) cwX12_bytesOf csX12_bytesOf mlX12_90 ⟨by decide, by decide⟩ rfl hl.1 (Nat.le_of_ble_eq_true rfl) ⟨by decide, by decide⟩ dX12_append_32 rfl (fun H locs hW hS => ?_)
  refine lv_iadd hx0 hb dX12_append_35 ?_
  refine lv_sipush (v := (600 : Int32)) hx0 hb dX12_append_36 (by decide) ?_
  refine lv_icmp_le (tgt := 48) hx0 hb dX12_append_39 (by decide) (fun c39 => ?_) (fun c39 => ?_)
  · rw [if_pos c39] at h
    refine lv_aload_n hx0 hb dX12_append_48 rfl (lv_at hl 0 rfl) ?_
    refine lv_iload_n hx0 hb dX12_append_49 rfl (lv_at hl 1 rfl) ?_
    obtain ⟨v50, h50, h⟩ := bnd h
    try dsimp only at h
    refine w_callV (L := (LM E b)) (k := 0) (As := [.int x1]) (rest := []) C hW hS (show 0 < 18 by decide) cm0 kcX12 (mX12_brings x1  (up σ 0 0 (0 : Int32)) v50 h50) cwX12_brings cvX12_brings rfl mlX12_97 ⟨by decide, by decide⟩ rfl hl.1 (Nat.le_of_ble_eq_true rfl) ⟨by decide, by decide⟩ dX12_append_50 rfl (fun H locs hW hS => ?_)
    refine lv_aload_n hx0 hb dX12_append_53 rfl (lv_at hl 0 rfl) ?_
    refine lv_iload_n hx0 hb dX12_append_54 rfl (lv_at hl 2 rfl) ?_
    obtain ⟨v55, h55, h⟩ := bnd h
    try dsimp only at h
    refine w_callV (L := (LM E b)) (k := 0) (As := [.int x2]) (rest := []) C hW hS (show 0 < 18 by decide) cm0 kcX12 (mX12_brings x2  v50 v55 h55) cwX12_brings cvX12_brings rfl mlX12_97 ⟨by decide, by decide⟩ rfl hl.1 (Nat.le_of_ble_eq_true rfl) ⟨by decide, by decide⟩ dX12_append_55 rfl (fun H locs hW hS => ?_)
    refine lv_aload_n hx0 hb dX12_append_58 rfl (lv_at hl 0 rfl) ?_
    refine lv_iload_n hx0 hb dX12_append_59 rfl (lv_at hl 3 rfl) ?_
    obtain ⟨v60, h60, h⟩ := bnd h
    try dsimp only at h
    refine w_callV (L := (LM E b)) (k := 0) (As := [.int x3]) (rest := []) C hW hS (show 0 < 18 by decide) cm0 kcX12 (mX12_brings x3  v55 v60 h60) cwX12_brings cvX12_brings rfl mlX12_97 ⟨by decide, by decide⟩ rfl hl.1 (Nat.le_of_ble_eq_true rfl) ⟨by decide, by decide⟩ dX12_append_60 rfl (fun H locs hW hS => ?_)
    refine lv_aload_n hx0 hb dX12_append_63 rfl (lv_at hl 0 rfl) ?_
    refine lv_iload hx0 hb dX12_append_64 (lv_at hl 4 rfl) ?_
    obtain ⟨v66, h66, h⟩ := bnd h
    try dsimp only at h
    refine w_callV (L := (LM E b)) (k := 0) (As := [.int x4]) (rest := []) C hW hS (show 0 < 18 by decide) cm0 kcX12 (mX12_brings x4  v60 v66 h66) cwX12_brings cvX12_brings rfl mlX12_97 ⟨by decide, by decide⟩ rfl hl.1 (Nat.le_of_ble_eq_true rfl) ⟨by decide, by decide⟩ dX12_append_66 rfl (fun H locs hW hS => ?_)
    refine lv_aload_n hx0 hb dX12_append_69 rfl (lv_at hl 0 rfl) ?_
    refine lv_iload hx0 hb dX12_append_70 (lv_at hl 5 rfl) ?_
    obtain ⟨v72, h72, h⟩ := bnd h
    try dsimp only at h
    refine w_callV (L := (LM E b)) (k := 0) (As := [.int x5]) (rest := []) C hW hS (show 0 < 18 by decide) cm0 kcX12 (mX12_brings x5  v66 v72 h72) cwX12_brings cvX12_brings rfl mlX12_97 ⟨by decide, by decide⟩ rfl hl.1 (Nat.le_of_ble_eq_true rfl) ⟨by decide, by decide⟩ dX12_append_72 rfl (fun H locs hW hS => ?_)
    refine lv_aload_n hx0 hb dX12_append_75 rfl (lv_at hl 0 rfl) ?_
    refine gtX12_12 C hW flX12_87 dX12_append_76 ?_
    cases h
    exact w_iret C hW hS dX12_append_79
  · rw [if_neg c39] at h
    refine lv_aload_n hx0 hb dX12_append_42 rfl (lv_at hl 0 rfl) ?_
    refine lv_iconst (v := (1 : Int32)) hx0 hb dX12_append_43 (by decide) ?_
    obtain ⟨v44, h44, h⟩ := bnd h
    try dsimp only at h
    refine w_callV (L := (LM E b)) (k := 0) (As := [.int (1 : Int32)]) (rest := []) C hW hS (show 0 < 18 by decide) cm0 kcX12 (mX12_fails (1 : Int32)  (up σ 0 0 (0 : Int32)) v44 h44) cwX12_fails cvX12_fails rfl mlX12_94 ⟨by decide, by decide⟩ rfl hl.1 (Nat.le_of_ble_eq_true rfl) ⟨by decide, by decide⟩ dX12_append_44 rfl (fun H locs hW hS => ?_)
    cases h
    exact w_iret C hW hS dX12_append_47
def fX12_truncate (x1 : Int32) (σ : Mem) : Option (Int32 × Mem) :=
  (fX12_isIn x1.toInt64 (0 : Int64) (((up σ 0 0 (0 : Int32)) 0 12).toInt64) (up σ 0 0 (0 : Int32))).bind fun v13 => if v13 = 0 then ((fX12_fails (1 : Int32) (up σ 0 0 (0 : Int32))).bind fun v21 => some (v21.1, v21.2)) else (some (x1, up (up σ 0 0 (0 : Int32)) 0 12 x1))
set_option maxRecDepth 100000 in
set_option maxHeartbeats 4000000 in
theorem mX12_truncate {l : Launch} {E : Ev} {b : Nat} (x1 : Int32) (σ : Mem) (r : (Int32 × Mem)) (h : fX12_truncate x1 σ = some r) : Met l yX12_truncate (tw yX12_truncate cX12_truncate 2 (some .int)) { frames := 1, cells := 0, slots := 0, locals := 25 } (va_Pc [.ref (b + 0), .int x1] (Pr l E (LM E b) σ)) (Qz E (LM E b) (some (.int r.1)) r.2) 0 0 (La (LM E b)) := by
  refine ct_of (by decide) (Nat.le_of_ble_eq_true rfl) ?_
  intro p e s m below meth c C hW hS ls hl
  have hx0 := C.1
  have hb := C.2.1
  have hl : lv_has ls 2 [(0, .ref (b + 0)), (1, .int x1)] := hl
  unfold fX12_truncate at h
  refine lv_aload_n hx0 hb dX12_truncate_0 rfl (lv_at hl 0 rfl) ?_
  refine lv_iconst (v := (0 : Int32)) hx0 hb dX12_truncate_1 (by decide) ?_
  refine ptX12_0 C hW hS flX12_3 dX12_truncate_2 (fun H locs hW hS => ?_)
  refine lv_iload_n hx0 hb dX12_truncate_5 rfl (lv_at hl 1 rfl) ?_
  refine lv_i2l hx0 hb dX12_truncate_6 rfl ?_
  refine lv_lconst (v := (0 : Int64)) hx0 hb dX12_truncate_7 (by decide) ?_
  refine lv_aload_n hx0 hb dX12_truncate_8 rfl (lv_at hl 0 rfl) ?_
  refine gtX12_12 C hW flX12_87 dX12_truncate_9 ?_
  refine lv_i2l hx0 hb dX12_truncate_12 rfl ?_
  obtain ⟨v13, h13, h⟩ := bnd h
  try dsimp only at h
  refine w_callS (L := (LM E b)) (As := [.long x1.toInt64, .long (0 : Int64), .long (((up σ 0 0 (0 : Int32)) 0 12).toInt64)]) (rest := []) C hW hS (mX12_isIn x1.toInt64 (0 : Int64) (((up σ 0 0 (0 : Int32)) 0 12).toInt64)  (up σ 0 0 (0 : Int32)) v13 h13) cwX12_isIn csX12_isIn mlX12_101 ⟨by decide, by decide⟩ rfl hl.1 (Nat.le_of_ble_eq_true rfl) ⟨by decide, by decide⟩ dX12_truncate_13 rfl (fun H locs hW hS => ?_)
  refine lv_if_ne (tgt := 25) hx0 hb dX12_truncate_16 (by decide) (fun c16 => ?_) (fun c16 => ?_)
  · rw [if_neg c16] at h
    refine lv_aload_n hx0 hb dX12_truncate_25 rfl (lv_at hl 0 rfl) ?_
    refine lv_iload_n hx0 hb dX12_truncate_26 rfl (lv_at hl 1 rfl) ?_
    refine ptX12_12 C hW hS flX12_87 dX12_truncate_27 (fun H locs hW hS => ?_)
    refine lv_iload_n hx0 hb dX12_truncate_30 rfl (lv_at hl 1 rfl) ?_
    cases h
    exact w_iret C hW hS dX12_truncate_31
  · rw [if_pos c16] at h
    refine lv_aload_n hx0 hb dX12_truncate_19 rfl (lv_at hl 0 rfl) ?_
    refine lv_iconst (v := (1 : Int32)) hx0 hb dX12_truncate_20 (by decide) ?_
    obtain ⟨v21, h21, h⟩ := bnd h
    try dsimp only at h
    refine w_callV (L := (LM E b)) (k := 0) (As := [.int (1 : Int32)]) (rest := []) C hW hS (show 0 < 18 by decide) cm0 kcX12 (mX12_fails (1 : Int32)  (up σ 0 0 (0 : Int32)) v21 h21) cwX12_fails cvX12_fails rfl mlX12_94 ⟨by decide, by decide⟩ rfl hl.1 (Nat.le_of_ble_eq_true rfl) ⟨by decide, by decide⟩ dX12_truncate_21 rfl (fun H locs hW hS => ?_)
    cases h
    exact w_iret C hW hS dX12_truncate_24
def fX12_here (σ : Mem) : Option Int32 :=
  if (σ 0 12) ≤ (σ 0 13) then (some (-1 : Int32)) else (if (σ 0 13) < 0 ∨ lm 7 ≤ (σ 0 13).toNatClampNeg then none else some ((σ 7 (σ 0 13).toNatClampNeg) &&& (255 : Int32)))
set_option maxRecDepth 100000 in
set_option maxHeartbeats 4000000 in
theorem mX12_here {l : Launch} {E : Ev} {b : Nat} (σ : Mem) (r : Int32) (h : fX12_here σ = some r) : Met l yX12_here (tw yX12_here cX12_here 1 (some .int)) { frames := 0, cells := 0, slots := 0, locals := 0 } (va_Pc [.ref (b + 0)] (Pr l E (LM E b) σ)) (Qz E (LM E b) (some (.int r)) σ) 0 0 (La (LM E b)) := by
  refine ct_of (by decide) (Nat.le_of_ble_eq_true rfl) ?_
  intro p e s m below meth c C hW hS ls hl
  have hx0 := C.1
  have hb := C.2.1
  have hl : lv_has ls 1 [(0, .ref (b + 0))] := hl
  unfold fX12_here at h
  refine lv_aload_n hx0 hb dX12_here_0 rfl (lv_at hl 0 rfl) ?_
  refine gtX12_13 C hW flX12_105 dX12_here_1 ?_
  refine lv_aload_n hx0 hb dX12_here_4 rfl (lv_at hl 0 rfl) ?_
  refine gtX12_12 C hW flX12_87 dX12_here_5 ?_
  refine lv_icmp_ge (tgt := 27) hx0 hb dX12_here_8 (by decide) (fun c8 => ?_) (fun c8 => ?_)
  · rw [if_pos c8] at h
    refine lv_iconst (v := (-1 : Int32)) hx0 hb dX12_here_27 (by decide) ?_
    cases h
    exact w_iret C hW hS dX12_here_28
  · rw [if_neg c8] at h
    refine lv_aload_n hx0 hb dX12_here_11 rfl (lv_at hl 0 rfl) ?_
    refine gtX12_11 C hW flX12_32 dX12_here_12 ?_
    refine lv_aload_n hx0 hb dX12_here_15 rfl (lv_at hl 0 rfl) ?_
    refine gtX12_13 C hW flX12_105 dX12_here_16 ?_
    by_cases z19 : (σ 0 13) < 0 ∨ lm 7 ≤ (σ 0 13).toNatClampNeg
    · rw [if_pos z19] at h; cases h
    rw [if_neg z19] at h
    refine ldBm (k := 7) C hW (by decide) z19 dX12_here_19 ?_
    refine lv_sipush (v := (255 : Int32)) hx0 hb dX12_here_20 (by decide) ?_
    refine lv_iand hx0 hb dX12_here_23 ?_
    refine lv_goto (tgt := 28) hx0 hb dX12_here_24 (by decide) ?_
    cases h
    exact w_iret C hW hS dX12_here_28
def fX12_look_l0 : Nat → Mem → Option (Mem)
  | 0, _ => none
  | n + 1, σ => (fX12_here σ).bind fun v1 => if v1 = (32 : Int32) then (fX12_look_l0 n  (up σ 0 13 ((σ 0 13) + (1 : Int32)))) else (some σ)
set_option maxRecDepth 100000 in
set_option maxHeartbeats 4000000 in
theorem bX12_look_l0 {p : Program} {l : Launch} {e : Env} {s : State} {m : MethodId} {args : Array Value} {below : List Frame} {meth : Method} {c : Code} {E : Ev} {b : Nat} (C : Cx p l s m args meth c E cX12_look 1 RX12 (some .int)) {Qf : State → Prop} {q : Mem} (hx : ∀ H locs ls, Wd E (LM E b) q H → va_S (La (LM E b)) s.heap H locs → lv_has ls 1 [(0, .ref (b + 0))] → W p l e { frames := 1, cells := 0, slots := 0, locals := 20 } s m args below meth c H locs 0 0 Qf (F0 m 22 ls [])) : ∀ (n : Nat) (σ : Mem), fX12_look_l0 n σ = some q → ∀ (H : Heap) (locs : List Loc) (ls : Array Slot), Wd E (LM E b) σ H → va_S (La (LM E b)) s.heap H locs → lv_has ls 1 [(0, .ref (b + 0))] → W p l e { frames := 1, cells := 0, slots := 0, locals := 20 } s m args below meth c H locs 0 0 Qf (F0 m 0 ls []) := by
  have hx0 := C.1
  have hb := C.2.1
  intro n
  induction n with
  | zero => intro σ h; simp [fX12_look_l0] at h
  | succ n ih =>
    intro σ h H locs ls hW hS hl
    unfold fX12_look_l0 at h
    refine lv_aload_n hx0 hb dX12_look_0 rfl (lv_at hl 0 rfl) ?_
    obtain ⟨v1, h1, h⟩ := bnd h
    try dsimp only at h
    refine w_callV (L := (LM E b)) (k := 0) (As := []) (rest := []) C hW hS (show 0 < 18 by decide) cm0 kcX12 (mX12_here   σ v1 h1) cwX12_here cvX12_here rfl mlX12_108 ⟨by decide, by decide⟩ rfl hl.1 (Nat.le_of_ble_eq_true rfl) ⟨by decide, by decide⟩ dX12_look_1 rfl (fun H locs hW hS => ?_)
    refine lv_bipush (v := (32 : Int32)) hx0 hb dX12_look_4 (by decide) ?_
    refine lv_icmp_ne (tgt := 22) hx0 hb dX12_look_6 (by decide) (fun c6 => ?_) (fun c6 => ?_)
    · rw [if_neg c6] at h
      cases h
      exact hx _ _ _ hW hS (lv_sub hl [0] rfl)
    · rw [if_pos c6] at h
      refine lv_aload_n hx0 hb dX12_look_9 rfl (lv_at hl 0 rfl) ?_
      refine lv_dup hx0 hb dX12_look_10 rfl ?_
      refine gtX12_13 C hW flX12_105 dX12_look_11 ?_
      refine lv_iconst (v := (1 : Int32)) hx0 hb dX12_look_14 (by decide) ?_
      refine lv_iadd hx0 hb dX12_look_15 ?_
      refine ptX12_13 C hW hS flX12_105 dX12_look_16 (fun H locs hW hS => ?_)
      refine lv_goto (tgt := 0) hx0 hb dX12_look_19 (by decide) ?_
      exact ih  (up σ 0 13 ((σ 0 13) + (1 : Int32))) h _ _ _ hW hS (lv_sub hl [0] rfl)
def fX12_look (σ : Mem) : Option (Int32 × Mem) :=
  (fX12_look_l0 FU σ).bind fun q0 => (fX12_here (up q0 0 14 (q0 0 13))).bind fun v31 => some (v31, up q0 0 14 (q0 0 13))
set_option maxRecDepth 100000 in
set_option maxHeartbeats 4000000 in
theorem mX12_look {l : Launch} {E : Ev} {b : Nat} (σ : Mem) (r : (Int32 × Mem)) (h : fX12_look σ = some r) : Met l yX12_look (tw yX12_look cX12_look 1 (some .int)) { frames := 1, cells := 0, slots := 0, locals := 20 } (va_Pc [.ref (b + 0)] (Pr l E (LM E b) σ)) (Qz E (LM E b) (some (.int r.1)) r.2) 0 0 (La (LM E b)) := by
  refine ct_of (by decide) (Nat.le_of_ble_eq_true rfl) ?_
  intro p e s m below meth c C hW hS ls hl
  have hx0 := C.1
  have hb := C.2.1
  have hl : lv_has ls 1 [(0, .ref (b + 0))] := hl
  unfold fX12_look at h
  obtain ⟨q0, h0, h⟩ := bnd h
  try dsimp only at h
  refine bX12_look_l0 C   (q := q0) ?_ FU  σ h0 _ _ _ hW hS (lv_sub hl [0] rfl)
  intro H locs ls hW hS hl
  refine lv_aload_n hx0 hb dX12_look_22 rfl (lv_at hl 0 rfl) ?_
  refine lv_aload_n hx0 hb dX12_look_23 rfl (lv_at hl 0 rfl) ?_
  refine gtX12_13 C hW flX12_105 dX12_look_24 ?_
  refine ptX12_14 C hW hS flX12_112 dX12_look_27 (fun H locs hW hS => ?_)
  refine lv_aload_n hx0 hb dX12_look_30 rfl (lv_at hl 0 rfl) ?_
  obtain ⟨v31, h31, h⟩ := bnd h
  try dsimp only at h
  refine w_callV (L := (LM E b)) (k := 0) (As := []) (rest := []) C hW hS (show 0 < 18 by decide) cm0 kcX12 (mX12_here   (up q0 0 14 (q0 0 13)) v31 h31) cwX12_here cvX12_here rfl mlX12_108 ⟨by decide, by decide⟩ rfl hl.1 (Nat.le_of_ble_eq_true rfl) ⟨by decide, by decide⟩ dX12_look_31 rfl (fun H locs hW hS => ?_)
  cases h
  exact w_iret C hW hS dX12_look_34
def fX12_wrongAt (x1 : Int32) (σ : Mem) : Option Mem :=
  if 0 ≤ (σ 0 15) then (some σ) else (some (up σ 0 15 x1))
set_option maxRecDepth 100000 in
set_option maxHeartbeats 4000000 in
theorem mX12_wrongAt {l : Launch} {E : Ev} {b : Nat} (x1 : Int32) (σ : Mem) (r : Mem) (h : fX12_wrongAt x1 σ = some r) : Met l yX12_wrongAt (tw yX12_wrongAt cX12_wrongAt 2 none) { frames := 0, cells := 0, slots := 0, locals := 0 } (va_Pc [.ref (b + 0), .int x1] (Pr l E (LM E b) σ)) (Qz E (LM E b) none r) 0 0 (La (LM E b)) := by
  refine ct_of (by decide) (Nat.le_of_ble_eq_true rfl) ?_
  intro p e s m below meth c C hW hS ls hl
  have hx0 := C.1
  have hb := C.2.1
  have hl : lv_has ls 2 [(0, .ref (b + 0)), (1, .int x1)] := hl
  unfold fX12_wrongAt at h
  refine lv_aload_n hx0 hb dX12_wrongAt_0 rfl (lv_at hl 0 rfl) ?_
  refine gtX12_15 C hW flX12_115 dX12_wrongAt_1 ?_
  refine lv_if_ge (tgt := 12) hx0 hb dX12_wrongAt_4 (by decide) (fun c4 => ?_) (fun c4 => ?_)
  · rw [if_pos c4] at h
    cases h
    exact w_vret C hW hS dX12_wrongAt_12
  · rw [if_neg c4] at h
    refine lv_aload_n hx0 hb dX12_wrongAt_7 rfl (lv_at hl 0 rfl) ?_
    refine lv_iload_n hx0 hb dX12_wrongAt_8 rfl (lv_at hl 1 rfl) ?_
    refine ptX12_15 C hW hS flX12_115 dX12_wrongAt_9 (fun H locs hW hS => ?_)
    cases h
    exact w_vret C hW hS dX12_wrongAt_12
def fX12_isFine (σ : Mem) : Option Int32 :=
  if 0 ≤ (σ 0 15) then (some (0 : Int32)) else (some (1 : Int32))
set_option maxRecDepth 100000 in
set_option maxHeartbeats 4000000 in
theorem mX12_isFine {l : Launch} {E : Ev} {b : Nat} (σ : Mem) (r : Int32) (h : fX12_isFine σ = some r) : Met l yX12_isFine (tw yX12_isFine cX12_isFine 1 (some .boolean)) { frames := 0, cells := 0, slots := 0, locals := 0 } (va_Pc [.ref (b + 0)] (Pr l E (LM E b) σ)) (Qz E (LM E b) (some (.int r)) σ) 0 0 (La (LM E b)) := by
  refine ct_of (by decide) (Nat.le_of_ble_eq_true rfl) ?_
  intro p e s m below meth c C hW hS ls hl
  have hx0 := C.1
  have hb := C.2.1
  have hl : lv_has ls 1 [(0, .ref (b + 0))] := hl
  unfold fX12_isFine at h
  refine lv_aload_n hx0 hb dX12_isFine_0 rfl (lv_at hl 0 rfl) ?_
  refine gtX12_15 C hW flX12_115 dX12_isFine_1 ?_
  refine lv_if_ge (tgt := 11) hx0 hb dX12_isFine_4 (by decide) (fun c4 => ?_) (fun c4 => ?_)
  · rw [if_pos c4] at h
    refine lv_iconst (v := (0 : Int32)) hx0 hb dX12_isFine_11 (by decide) ?_
    cases h
    exact w_zret C hW hS (Or.inl rfl) dX12_isFine_12
  · rw [if_neg c4] at h
    refine lv_iconst (v := (1 : Int32)) hx0 hb dX12_isFine_7 (by decide) ?_
    refine lv_goto (tgt := 12) hx0 hb dX12_isFine_8 (by decide) ?_
    cases h
    exact w_zret C hW hS (Or.inr rfl) dX12_isFine_12
def fX12_isLetter (x0 : Int32) (σ : Mem) : Option Int32 :=
  if x0 < (97 : Int32) then (some (0 : Int32)) else (if (122 : Int32) < x0 then (some (0 : Int32)) else (some (1 : Int32)))
set_option maxRecDepth 100000 in
set_option maxHeartbeats 4000000 in
theorem mX12_isLetter {l : Launch} {E : Ev} {b : Nat} (x0 : Int32) (σ : Mem) (r : Int32) (h : fX12_isLetter x0 σ = some r) : Met l yX12_isLetter (tw yX12_isLetter cX12_isLetter 1 (some .boolean)) { frames := 0, cells := 0, slots := 0, locals := 0 } (va_Pc [.int x0] (Pr l E (LM E b) σ)) (Qz E (LM E b) (some (.int r)) σ) 0 0 (La (LM E b)) := by
  refine ct_of (by decide) (Nat.le_of_ble_eq_true rfl) ?_
  intro p e s m below meth c C hW hS ls hl
  have hx0 := C.1
  have hb := C.2.1
  have hl : lv_has ls 1 [(0, .int x0)] := hl
  unfold fX12_isLetter at h
  refine lv_iload_n hx0 hb dX12_isLetter_0 rfl (lv_at hl 0 rfl) ?_
  refine lv_bipush (v := (97 : Int32)) hx0 hb dX12_isLetter_1 (by decide) ?_
  refine lv_icmp_lt (tgt := 16) hx0 hb dX12_isLetter_3 (by decide) (fun c3 => ?_) (fun c3 => ?_)
  · rw [if_pos c3] at h
    refine lv_iconst (v := (0 : Int32)) hx0 hb dX12_isLetter_16 (by decide) ?_
    cases h
    exact w_zret C hW hS (Or.inl rfl) dX12_isLetter_17
  · rw [if_neg c3] at h
    refine lv_iload_n hx0 hb dX12_isLetter_6 rfl (lv_at hl 0 rfl) ?_
    refine lv_bipush (v := (122 : Int32)) hx0 hb dX12_isLetter_7 (by decide) ?_
    refine lv_icmp_gt (tgt := 16) hx0 hb dX12_isLetter_9 (by decide) (fun c9 => ?_) (fun c9 => ?_)
    · rw [if_pos c9] at h
      refine lv_iconst (v := (0 : Int32)) hx0 hb dX12_isLetter_16 (by decide) ?_
      cases h
      exact w_zret C hW hS (Or.inl rfl) dX12_isLetter_17
    · rw [if_neg c9] at h
      refine lv_iconst (v := (1 : Int32)) hx0 hb dX12_isLetter_12 (by decide) ?_
      refine lv_goto (tgt := 17) hx0 hb dX12_isLetter_13 (by decide) ?_
      cases h
      exact w_zret C hW hS (Or.inr rfl) dX12_isLetter_17
def fX12_isDigit (x0 : Int32) (σ : Mem) : Option Int32 :=
  if x0 < (48 : Int32) then (some (0 : Int32)) else (if (57 : Int32) < x0 then (some (0 : Int32)) else (some (1 : Int32)))
set_option maxRecDepth 100000 in
set_option maxHeartbeats 4000000 in
theorem mX12_isDigit {l : Launch} {E : Ev} {b : Nat} (x0 : Int32) (σ : Mem) (r : Int32) (h : fX12_isDigit x0 σ = some r) : Met l yX12_isDigit (tw yX12_isDigit cX12_isDigit 1 (some .boolean)) { frames := 0, cells := 0, slots := 0, locals := 0 } (va_Pc [.int x0] (Pr l E (LM E b) σ)) (Qz E (LM E b) (some (.int r)) σ) 0 0 (La (LM E b)) := by
  refine ct_of (by decide) (Nat.le_of_ble_eq_true rfl) ?_
  intro p e s m below meth c C hW hS ls hl
  have hx0 := C.1
  have hb := C.2.1
  have hl : lv_has ls 1 [(0, .int x0)] := hl
  unfold fX12_isDigit at h
  refine lv_iload_n hx0 hb dX12_isDigit_0 rfl (lv_at hl 0 rfl) ?_
  refine lv_bipush (v := (48 : Int32)) hx0 hb dX12_isDigit_1 (by decide) ?_
  refine lv_icmp_lt (tgt := 16) hx0 hb dX12_isDigit_3 (by decide) (fun c3 => ?_) (fun c3 => ?_)
  · rw [if_pos c3] at h
    refine lv_iconst (v := (0 : Int32)) hx0 hb dX12_isDigit_16 (by decide) ?_
    cases h
    exact w_zret C hW hS (Or.inl rfl) dX12_isDigit_17
  · rw [if_neg c3] at h
    refine lv_iload_n hx0 hb dX12_isDigit_6 rfl (lv_at hl 0 rfl) ?_
    refine lv_bipush (v := (57 : Int32)) hx0 hb dX12_isDigit_7 (by decide) ?_
    refine lv_icmp_gt (tgt := 16) hx0 hb dX12_isDigit_9 (by decide) (fun c9 => ?_) (fun c9 => ?_)
    · rw [if_pos c9] at h
      refine lv_iconst (v := (0 : Int32)) hx0 hb dX12_isDigit_16 (by decide) ?_
      cases h
      exact w_zret C hW hS (Or.inl rfl) dX12_isDigit_17
    · rw [if_neg c9] at h
      refine lv_iconst (v := (1 : Int32)) hx0 hb dX12_isDigit_12 (by decide) ?_
      refine lv_goto (tgt := 17) hx0 hb dX12_isDigit_13 (by decide) ?_
      cases h
      exact w_zret C hW hS (Or.inr rfl) dX12_isDigit_17
def fX12_takes_l19 (w1 : Nat) : Nat → Int32 → Mem → Option (Int32)
  | 0, _, _ => none
  | n + 1, x3, σ => if (σ 0 12) ≤ x3 then (some x3) else (if x3 < 0 ∨ lm 7 ≤ x3.toNatClampNeg then none else (fX12_isLetter (σ 7 x3.toNatClampNeg) σ).bind fun v33 => if v33 = 0 then (some x3) else (fX12_takes_l19 w1 n (x3 + (1 : Int32)) σ))
set_option maxRecDepth 100000 in
set_option maxHeartbeats 4000000 in
theorem bX12_takes_l19 {p : Program} {l : Launch} {e : Env} {s : State} {m : MethodId} {args : Array Value} {below : List Frame} {meth : Method} {c : Code} {E : Ev} {b : Nat} (C : Cx p l s m args meth c E cX12_takes 5 RX12 (some .boolean)) (w1 : Nat) (hw1 : w1 < bytL.length) (σ : Mem) {Qf : State → Prop} {q : Int32} (hx : ∀ H locs ls, Wd E (LM E b) σ H → va_S (La (LM E b)) s.heap H locs → lv_has ls 5 [(0, .ref (b + 0)), (1, .ref (E.2.2.1 w1)), (3, .int q)] → W p l e { frames := 4, cells := 0, slots := 0, locals := 160 } s m args below meth c H locs 0 0 Qf (F0 m 45 ls [])) : ∀ (n : Nat) (x3 : Int32), fX12_takes_l19 w1 n x3 σ = some q → ∀ (H : Heap) (locs : List Loc) (ls : Array Slot), Wd E (LM E b) σ H → va_S (La (LM E b)) s.heap H locs → lv_has ls 5 [(0, .ref (b + 0)), (1, .ref (E.2.2.1 w1)), (3, .int x3)] → W p l e { frames := 4, cells := 0, slots := 0, locals := 160 } s m args below meth c H locs 0 0 Qf (F0 m 19 ls []) := by
  have hx0 := C.1
  have hb := C.2.1
  intro n
  induction n with
  | zero => intro x3 h; simp [fX12_takes_l19] at h
  | succ n ih =>
    intro x3 h H locs ls hW hS hl
    unfold fX12_takes_l19 at h
    refine lv_iload_n hx0 hb dX12_takes_19 rfl (lv_at hl 2 rfl) ?_
    refine lv_aload_n hx0 hb dX12_takes_20 rfl (lv_at hl 0 rfl) ?_
    refine gtX12_12 C hW flX12_87 dX12_takes_21 ?_
    refine lv_icmp_ge (tgt := 45) hx0 hb dX12_takes_24 (by decide) (fun c24 => ?_) (fun c24 => ?_)
    · rw [if_pos c24] at h
      cases h
      exact hx _ _ _ hW hS (lv_sub hl [0, 1, 2] rfl)
    · rw [if_neg c24] at h
      refine lv_aload_n hx0 hb dX12_takes_27 rfl (lv_at hl 0 rfl) ?_
      refine gtX12_11 C hW flX12_32 dX12_takes_28 ?_
      refine lv_iload_n hx0 hb dX12_takes_31 rfl (lv_at hl 2 rfl) ?_
      by_cases z32 : x3 < 0 ∨ lm 7 ≤ x3.toNatClampNeg
      · rw [if_pos z32] at h; cases h
      rw [if_neg z32] at h
      refine ldBm (k := 7) C hW (by decide) z32 dX12_takes_32 ?_
      obtain ⟨v33, h33, h⟩ := bnd h
      try dsimp only at h
      refine w_callS (L := (LM E b)) (As := [.int (σ 7 x3.toNatClampNeg)]) (rest := []) C hW hS (mX12_isLetter (σ 7 x3.toNatClampNeg)  σ v33 h33) cwX12_isLetter csX12_isLetter mlX12_125 ⟨by decide, by decide⟩ rfl hl.1 (Nat.le_of_ble_eq_true rfl) ⟨by decide, by decide⟩ dX12_takes_33 rfl (fun H locs hW hS => ?_)
      refine lv_if_eq (tgt := 45) hx0 hb dX12_takes_36 (by decide) (fun c36 => ?_) (fun c36 => ?_)
      · rw [if_pos c36] at h
        cases h
        exact hx _ _ _ hW hS (lv_sub hl [0, 1, 2] rfl)
      · rw [if_neg c36] at h
        refine lv_iinc (v := x3 + (1 : Int32)) (lv' := [(3, .int (x3 + (1 : Int32))), (0, .ref (b + 0)), (1, .ref (E.2.2.1 w1))]) hx0 hb dX12_takes_39 hl (k := 2) rfl rfl (by decide) rfl (fun ls hl => ?_)
        refine lv_goto (tgt := 19) hx0 hb dX12_takes_42 (by decide) ?_
        exact ih (x3 + (1 : Int32)) h _ _ _ hW hS (lv_sub hl [1, 2, 0] rfl)
def fX12_takes_l63 (w1 : Nat) (x3 : Int32) : Nat → Int32 → Mem → Option ((Int32 × Mem) ⊕ (Int32))
  | 0, _, _ => none
  | n + 1, x4, σ => if (Int32.ofNat (bytL.getD w1 []).length) ≤ x4 then (some (.inr x4)) else (if ((σ 0 13) + x4) < 0 ∨ lm 7 ≤ ((σ 0 13) + x4).toNatClampNeg then none else if x4 < 0 ∨ (bytL.getD w1 []).length ≤ x4.toNatClampNeg then none else if (σ 7 ((σ 0 13) + x4).toNatClampNeg) = ((bytL.getD w1 []).getD x4.toNatClampNeg 0) then (fX12_takes_l63 w1 x3 n (x4 + (1 : Int32)) σ) else (some (.inl ((0 : Int32), σ))))
set_option maxRecDepth 100000 in
set_option maxHeartbeats 4000000 in
theorem bX12_takes_l63 {p : Program} {l : Launch} {e : Env} {s : State} {m : MethodId} {args : Array Value} {below : List Frame} {meth : Method} {c : Code} {E : Ev} {b : Nat} (C : Cx p l s m args meth c E cX12_takes 5 RX12 (some .boolean)) (w1 : Nat) (x3 : Int32) (hw1 : w1 < bytL.length) (σ : Mem) (r0 : (Int32 × Mem)) {q0 : (Int32 × Mem) ⊕ (Int32)} (hr : ∀ r, q0 = .inl r → r = r0) (hx : ∀ q, q0 = .inr q → ∀ H locs ls, Wd E (LM E b) σ H → va_S (La (LM E b)) s.heap H locs → lv_has ls 5 [(0, .ref (b + 0)), (1, .ref (E.2.2.1 w1)), (3, .int x3), (4, .int q)] → W p l e { frames := 4, cells := 0, slots := 0, locals := 160 } s m args below meth c H locs 0 0 (MQ below (Qz E (LM E b) (some (.int r0.1)) r0.2) args s 0 0 (La (LM E b))) (F0 m 101 ls [])) : ∀ (n : Nat) (x4 : Int32), fX12_takes_l63 w1 x3 n x4 σ = some q0 → ∀ (H : Heap) (locs : List Loc) (ls : Array Slot), Wd E (LM E b) σ H → va_S (La (LM E b)) s.heap H locs → lv_has ls 5 [(0, .ref (b + 0)), (1, .ref (E.2.2.1 w1)), (3, .int x3), (4, .int x4)] → W p l e { frames := 4, cells := 0, slots := 0, locals := 160 } s m args below meth c H locs 0 0 (MQ below (Qz E (LM E b) (some (.int r0.1)) r0.2) args s 0 0 (La (LM E b))) (F0 m 63 ls []) := by
  have hx0 := C.1
  have hb := C.2.1
  intro n
  induction n with
  | zero => intro x4 h; simp [fX12_takes_l63] at h
  | succ n ih =>
    intro x4 h H locs ls hW hS hl
    unfold fX12_takes_l63 at h
    refine lv_iload hx0 hb dX12_takes_63 (lv_at hl 3 rfl) ?_
    refine lv_aload_n hx0 hb dX12_takes_65 rfl (lv_at hl 1 rfl) ?_
    refine w_slen (i := w1) C hW hS hw1 mlX12_129 ⟨by decide, by decide⟩ hl.1 (Nat.le_of_ble_eq_true rfl) ⟨by decide, by decide⟩ dX12_takes_66 (fun H locs hW hS => ?_)
    refine lv_icmp_ge (tgt := 101) hx0 hb dX12_takes_69 (by decide) (fun c69 => ?_) (fun c69 => ?_)
    · rw [if_pos c69] at h
      cases h
      exact hx _ rfl _ _ _ hW hS (lv_sub hl [0, 1, 2, 3] rfl)
    · rw [if_neg c69] at h
      refine lv_aload_n hx0 hb dX12_takes_72 rfl (lv_at hl 0 rfl) ?_
      refine gtX12_11 C hW flX12_32 dX12_takes_73 ?_
      refine lv_aload_n hx0 hb dX12_takes_76 rfl (lv_at hl 0 rfl) ?_
      refine gtX12_13 C hW flX12_105 dX12_takes_77 ?_
      refine lv_iload hx0 hb dX12_takes_80 (lv_at hl 3 rfl) ?_
      refine lv_iadd hx0 hb dX12_takes_82 ?_
      by_cases z83 : ((σ 0 13) + x4) < 0 ∨ lm 7 ≤ ((σ 0 13) + x4).toNatClampNeg
      · rw [if_pos z83] at h; cases h
      rw [if_neg z83] at h
      refine ldBm (k := 7) C hW (by decide) z83 dX12_takes_83 ?_
      refine lv_aload_n hx0 hb dX12_takes_84 rfl (lv_at hl 1 rfl) ?_
      refine lv_iload hx0 hb dX12_takes_85 (lv_at hl 3 rfl) ?_
      by_cases z87 : x4 < 0 ∨ (bytL.getD w1 []).length ≤ x4.toNatClampNeg
      · rw [if_pos z87] at h; cases h
      rw [if_neg z87] at h
      refine w_schr (i := w1) (rest := [.int (σ 7 ((σ 0 13) + x4).toNatClampNeg)]) C hW hS hw1 z87 mlX12_133 ⟨by decide, by decide⟩ hl.1 (Nat.le_of_ble_eq_true rfl) ⟨by decide, by decide⟩ dX12_takes_87 (fun H locs hW hS => ?_)
      refine lv_icmp_eq (tgt := 95) hx0 hb dX12_takes_90 (by decide) (fun c90 => ?_) (fun c90 => ?_)
      · rw [if_pos c90] at h
        refine lv_iinc (v := x4 + (1 : Int32)) (lv' := [(4, .int (x4 + (1 : Int32))), (0, .ref (b + 0)), (1, .ref (E.2.2.1 w1)), (3, .int x3)]) hx0 hb dX12_takes_95 hl (k := 3) rfl rfl (by decide) rfl (fun ls hl => ?_)
        refine lv_goto (tgt := 63) hx0 hb dX12_takes_98 (by decide) ?_
        exact ih (x4 + (1 : Int32)) h _ _ _ hW hS (lv_sub hl [1, 2, 3, 0] rfl)
      · rw [if_neg c90] at h
        refine lv_iconst (v := (0 : Int32)) hx0 hb dX12_takes_93 (by decide) ?_
        cases h
        cases hr _ rfl
        exact w_zret C hW hS (Or.inl rfl) dX12_takes_94
def fX12_takes_j45 (w1 : Nat) (x3 : Int32) (σ : Mem) : Option ((Int32 × Mem)) :=
  if (x3 - (σ 0 13)) = (Int32.ofNat (bytL.getD w1 []).length) then ((fX12_takes_l63 w1 x3 FU (0 : Int32) σ).bind fun q63 => match q63 with | .inl r => some r | .inr q63 => some ((1 : Int32), up σ 0 13 x3)) else (some ((0 : Int32), σ))
set_option maxRecDepth 100000 in
set_option maxHeartbeats 4000000 in
theorem bX12_takes_j45 {p : Program} {l : Launch} {e : Env} {s : State} {m : MethodId} {args : Array Value} {below : List Frame} {meth : Method} {c : Code} {E : Ev} {b : Nat} (C : Cx p l s m args meth c E cX12_takes 5 RX12 (some .boolean)) (w1 : Nat) (x3 : Int32) (hw1 : w1 < bytL.length) {r : (Int32 × Mem)} (σ : Mem) (h : fX12_takes_j45 w1 x3 σ = some r) (H : Heap) (locs : List Loc) (ls : Array Slot) (hW : Wd E (LM E b) σ H) (hS : va_S (La (LM E b)) s.heap H locs) (hl : lv_has ls 5 [(0, .ref (b + 0)), (1, .ref (E.2.2.1 w1)), (3, .int x3)]) : W p l e { frames := 4, cells := 0, slots := 0, locals := 160 } s m args below meth c H locs 0 0 (MQ below (Qz E (LM E b) (some (.int r.1)) r.2) args s 0 0 (La (LM E b))) (F0 m 45 ls []) := by
  have hx0 := C.1
  have hb := C.2.1
  unfold fX12_takes_j45 at h
  refine lv_iload_n hx0 hb dX12_takes_45 rfl (lv_at hl 2 rfl) ?_
  refine lv_aload_n hx0 hb dX12_takes_46 rfl (lv_at hl 0 rfl) ?_
  refine gtX12_13 C hW flX12_105 dX12_takes_47 ?_
  refine lv_isub hx0 hb dX12_takes_50 ?_
  refine lv_aload_n hx0 hb dX12_takes_51 rfl (lv_at hl 1 rfl) ?_
  refine w_slen (i := w1) C hW hS hw1 mlX12_129 ⟨by decide, by decide⟩ hl.1 (Nat.le_of_ble_eq_true rfl) ⟨by decide, by decide⟩ dX12_takes_52 (fun H locs hW hS => ?_)
  refine lv_icmp_eq (tgt := 60) hx0 hb dX12_takes_55 (by decide) (fun c55 => ?_) (fun c55 => ?_)
  · rw [if_pos c55] at h
    refine lv_iconst (v := (0 : Int32)) hx0 hb dX12_takes_60 (by decide) ?_
    refine lv_istore (lv' := [(4, .int (0 : Int32)), (0, .ref (b + 0)), (1, .ref (E.2.2.1 w1)), (3, .int x3)]) hx0 hb dX12_takes_61 hl (by decide) rfl (fun ls hl => ?_)
    obtain ⟨q63, h63, h⟩ := bnd h
    refine bX12_takes_l63 C w1 x3 hw1 σ r (q0 := q63) ?_ ?_ FU (0 : Int32) h63 _ _ _ hW hS (lv_sub hl [1, 2, 3, 0] rfl)
    · intro r1 hq; subst hq; (try dsimp only at h); exact Option.some.inj h
    · intro q63 hq H locs ls hW hS hl
      subst hq; try dsimp only at h
      refine lv_aload_n hx0 hb dX12_takes_101 rfl (lv_at hl 0 rfl) ?_
      refine lv_iload_n hx0 hb dX12_takes_102 rfl (lv_at hl 2 rfl) ?_
      refine ptX12_13 C hW hS flX12_105 dX12_takes_103 (fun H locs hW hS => ?_)
      refine lv_iconst (v := (1 : Int32)) hx0 hb dX12_takes_106 (by decide) ?_
      cases h
      exact w_zret C hW hS (Or.inr rfl) dX12_takes_107
  · rw [if_neg c55] at h
    refine lv_iconst (v := (0 : Int32)) hx0 hb dX12_takes_58 (by decide) ?_
    cases h
    exact w_zret C hW hS (Or.inl rfl) dX12_takes_59
def fX12_takes (w1 : Nat) (σ : Mem) : Option (Int32 × Mem) :=
  (fX12_isFine σ).bind fun v1 => if v1 = 0 then (some ((0 : Int32), σ)) else ((fX12_look σ).bind fun v10 => (fX12_takes_l19 w1 FU (v10.2 0 13) v10.2).bind fun q19 => fX12_takes_j45 w1 q19 v10.2)
set_option maxRecDepth 100000 in
set_option maxHeartbeats 4000000 in
theorem mX12_takes {l : Launch} {E : Ev} {b : Nat} (w1 : Nat) (hw1 : w1 < bytL.length) (σ : Mem) (r : (Int32 × Mem)) (h : fX12_takes w1 σ = some r) : Met l yX12_takes (tw yX12_takes cX12_takes 5 (some .boolean)) { frames := 4, cells := 0, slots := 0, locals := 160 } (va_Pc [.ref (b + 0), .ref (E.2.2.1 w1)] (Pr l E (LM E b) σ)) (Qz E (LM E b) (some (.int r.1)) r.2) 0 0 (La (LM E b)) := by
  refine ct_of (by decide) (Nat.le_of_ble_eq_true rfl) ?_
  intro p e s m below meth c C hW hS ls hl
  have hx0 := C.1
  have hb := C.2.1
  have hl : lv_has ls 5 [(0, .ref (b + 0)), (1, .ref (E.2.2.1 w1))] := hl
  unfold fX12_takes at h
  refine lv_aload_n hx0 hb dX12_takes_0 rfl (lv_at hl 0 rfl) ?_
  obtain ⟨v1, h1, h⟩ := bnd h
  try dsimp only at h
  refine w_callV (L := (LM E b)) (k := 0) (As := []) (rest := []) C hW hS (show 0 < 18 by decide) cm0 kcX12 (mX12_isFine   σ v1 h1) cwX12_isFine cvX12_isFine rfl mlX12_118 ⟨by decide, by decide⟩ rfl hl.1 (Nat.le_of_ble_eq_true rfl) ⟨by decide, by decide⟩ dX12_takes_1 rfl (fun H locs hW hS => ?_)
  refine lv_if_ne (tgt := 9) hx0 hb dX12_takes_4 (by decide) (fun c4 => ?_) (fun c4 => ?_)
  · rw [if_neg c4] at h
    refine lv_aload_n hx0 hb dX12_takes_9 rfl (lv_at hl 0 rfl) ?_
    obtain ⟨v10, h10, h⟩ := bnd h
    try dsimp only at h
    refine w_callV (L := (LM E b)) (k := 0) (As := []) (rest := []) C hW hS (show 0 < 18 by decide) cm0 kcX12 (mX12_look   σ v10 h10) cwX12_look cvX12_look rfl mlX12_122 ⟨by decide, by decide⟩ rfl hl.1 (Nat.le_of_ble_eq_true rfl) ⟨by decide, by decide⟩ dX12_takes_10 rfl (fun H locs hW hS => ?_)
    refine lv_istore_n (lv' := [(2, .int v10.1), (0, .ref (b + 0)), (1, .ref (E.2.2.1 w1))]) hx0 hb dX12_takes_13 rfl hl (by decide) rfl (fun ls hl => ?_)
    refine lv_aload_n hx0 hb dX12_takes_14 rfl (lv_at hl 1 rfl) ?_
    refine gtX12_13 C hW flX12_105 dX12_takes_15 ?_
    refine lv_istore_n (lv' := [(3, .int (v10.2 0 13)), (2, .int v10.1), (0, .ref (b + 0)), (1, .ref (E.2.2.1 w1))]) hx0 hb dX12_takes_18 rfl hl (by decide) rfl (fun ls hl => ?_)
    obtain ⟨q19, h19, h⟩ := bnd h
    try dsimp only at h
    refine bX12_takes_l19 C w1 hw1 v10.2 (q := q19) ?_ FU (v10.2 0 13) h19 _ _ _ hW hS (lv_sub hl [2, 3, 0] rfl)
    intro H locs ls hW hS hl
    exact bX12_takes_j45 C w1 q19 hw1 v10.2 h _ _ _ hW hS (lv_sub hl [0, 1, 2] rfl)
  · rw [if_pos c4] at h
    refine lv_iconst (v := (0 : Int32)) hx0 hb dX12_takes_7 (by decide) ?_
    cases h
    exact w_zret C hW hS (Or.inl rfl) dX12_takes_8
def fX12_number_l17 (x1 : Int32) (x2 : Int32) : Nat → Int32 → Mem → Option (Int32 × Mem)
  | 0, _, _ => none
  | n + 1, x4, σ => (fX12_here σ).bind fun v18 => (fX12_isDigit v18 σ).bind fun v21 => if v21 = 0 then (some (x4, σ)) else (if (4 : Int32) ≤ ((σ 0 13) - (σ 0 14)) then (fX12_number_l17 x1 x2 n x4 (up σ 0 13 ((σ 0 13) + (1 : Int32)))) else ((fX12_here σ).bind fun v46 => fX12_number_l17 x1 x2 n ((((10 : Int32) * x4) + v46) - (48 : Int32)) (up σ 0 13 ((σ 0 13) + (1 : Int32)))))
set_option maxRecDepth 100000 in
set_option maxHeartbeats 4000000 in
theorem bX12_number_l17 {p : Program} {l : Launch} {e : Env} {s : State} {m : MethodId} {args : Array Value} {below : List Frame} {meth : Method} {c : Code} {E : Ev} {b : Nat} (C : Cx p l s m args meth c E cX12_number 5 RX12 (some .int)) (x1 : Int32) (x2 : Int32) {Qf : State → Prop} {q : Int32 × Mem} (hx : ∀ H locs ls, Wd E (LM E b) q.2 H → va_S (La (LM E b)) s.heap H locs → lv_has ls 5 [(0, .ref (b + 0)), (1, .int x1), (2, .int x2), (4, .int q.1)] → W p l e { frames := 2, cells := 0, slots := 0, locals := 40 } s m args below meth c H locs 0 0 Qf (F0 m 73 ls [])) : ∀ (n : Nat) (x4 : Int32) (σ : Mem), fX12_number_l17 x1 x2 n x4 σ = some q → ∀ (H : Heap) (locs : List Loc) (ls : Array Slot), Wd E (LM E b) σ H → va_S (La (LM E b)) s.heap H locs → lv_has ls 5 [(0, .ref (b + 0)), (1, .int x1), (2, .int x2), (4, .int x4)] → W p l e { frames := 2, cells := 0, slots := 0, locals := 40 } s m args below meth c H locs 0 0 Qf (F0 m 17 ls []) := by
  have hx0 := C.1
  have hb := C.2.1
  intro n
  induction n with
  | zero => intro x4 σ h; simp [fX12_number_l17] at h
  | succ n ih =>
    intro x4 σ h H locs ls hW hS hl
    unfold fX12_number_l17 at h
    refine lv_aload_n hx0 hb dX12_number_17 rfl (lv_at hl 0 rfl) ?_
    obtain ⟨v18, h18, h⟩ := bnd h
    try dsimp only at h
    refine w_callV (L := (LM E b)) (k := 0) (As := []) (rest := []) C hW hS (show 0 < 18 by decide) cm0 kcX12 (mX12_here   σ v18 h18) cwX12_here cvX12_here rfl mlX12_108 ⟨by decide, by decide⟩ rfl hl.1 (Nat.le_of_ble_eq_true rfl) ⟨by decide, by decide⟩ dX12_number_18 rfl (fun H locs hW hS => ?_)
    obtain ⟨v21, h21, h⟩ := bnd h
    try dsimp only at h
    refine w_callS (L := (LM E b)) (As := [.int v18]) (rest := []) C hW hS (mX12_isDigit v18  σ v21 h21) cwX12_isDigit csX12_isDigit mlX12_137 ⟨by decide, by decide⟩ rfl hl.1 (Nat.le_of_ble_eq_true rfl) ⟨by decide, by decide⟩ dX12_number_21 rfl (fun H locs hW hS => ?_)
    refine lv_if_eq (tgt := 73) hx0 hb dX12_number_24 (by decide) (fun c24 => ?_) (fun c24 => ?_)
    · rw [if_pos c24] at h
      cases h
      exact hx _ _ _ hW hS (lv_sub hl [0, 1, 2, 3] rfl)
    · rw [if_neg c24] at h
      refine lv_aload_n hx0 hb dX12_number_27 rfl (lv_at hl 0 rfl) ?_
      refine gtX12_13 C hW flX12_105 dX12_number_28 ?_
      refine lv_aload_n hx0 hb dX12_number_31 rfl (lv_at hl 0 rfl) ?_
      refine gtX12_14 C hW flX12_112 dX12_number_32 ?_
      refine lv_isub hx0 hb dX12_number_35 ?_
      refine lv_iconst (v := (4 : Int32)) hx0 hb dX12_number_36 (by decide) ?_
      refine lv_icmp_ge (tgt := 56) hx0 hb dX12_number_37 (by decide) (fun c37 => ?_) (fun c37 => ?_)
      · rw [if_pos c37] at h
        refine lv_iload hx0 hb dX12_number_56 (lv_at hl 3 rfl) ?_
        refine lv_istore (lv' := [(4, .int x4), (0, .ref (b + 0)), (1, .int x1), (2, .int x2)]) hx0 hb dX12_number_58 hl (by decide) rfl (fun ls hl => ?_)
        refine lv_aload_n hx0 hb dX12_number_60 rfl (lv_at hl 1 rfl) ?_
        refine lv_dup hx0 hb dX12_number_61 rfl ?_
        refine gtX12_13 C hW flX12_105 dX12_number_62 ?_
        refine lv_iconst (v := (1 : Int32)) hx0 hb dX12_number_65 (by decide) ?_
        refine lv_iadd hx0 hb dX12_number_66 ?_
        refine ptX12_13 C hW hS flX12_105 dX12_number_67 (fun H locs hW hS => ?_)
        refine lv_goto (tgt := 17) hx0 hb dX12_number_70 (by decide) ?_
        exact ih x4 (up σ 0 13 ((σ 0 13) + (1 : Int32))) h _ _ _ hW hS (lv_sub hl [1, 2, 3, 0] rfl)
      · rw [if_neg c37] at h
        refine lv_bipush (v := (10 : Int32)) hx0 hb dX12_number_40 (by decide) ?_
        refine lv_iload hx0 hb dX12_number_42 (lv_at hl 3 rfl) ?_
        refine lv_imul hx0 hb dX12_number_44 ?_
        refine lv_aload_n hx0 hb dX12_number_45 rfl (lv_at hl 0 rfl) ?_
        obtain ⟨v46, h46, h⟩ := bnd h
        try dsimp only at h
        refine w_callV (L := (LM E b)) (k := 0) (As := []) (rest := [.int ((10 : Int32) * x4)]) C hW hS (show 0 < 18 by decide) cm0 kcX12 (mX12_here   σ v46 h46) cwX12_here cvX12_here rfl mlX12_108 ⟨by decide, by decide⟩ rfl hl.1 (Nat.le_of_ble_eq_true rfl) ⟨by decide, by decide⟩ dX12_number_46 rfl (fun H locs hW hS => ?_)
        refine lv_iadd hx0 hb dX12_number_49 ?_
        refine lv_bipush (v := (48 : Int32)) hx0 hb dX12_number_50 (by decide) ?_
        refine lv_isub hx0 hb dX12_number_52 ?_
        refine lv_goto (tgt := 58) hx0 hb dX12_number_53 (by decide) ?_
        refine lv_istore (lv' := [(4, .int ((((10 : Int32) * x4) + v46) - (48 : Int32))), (0, .ref (b + 0)), (1, .int x1), (2, .int x2)]) hx0 hb dX12_number_58 hl (by decide) rfl (fun ls hl => ?_)
        refine lv_aload_n hx0 hb dX12_number_60 rfl (lv_at hl 1 rfl) ?_
        refine lv_dup hx0 hb dX12_number_61 rfl ?_
        refine gtX12_13 C hW flX12_105 dX12_number_62 ?_
        refine lv_iconst (v := (1 : Int32)) hx0 hb dX12_number_65 (by decide) ?_
        refine lv_iadd hx0 hb dX12_number_66 ?_
        refine ptX12_13 C hW hS flX12_105 dX12_number_67 (fun H locs hW hS => ?_)
        refine lv_goto (tgt := 17) hx0 hb dX12_number_70 (by decide) ?_
        exact ih ((((10 : Int32) * x4) + v46) - (48 : Int32)) (up σ 0 13 ((σ 0 13) + (1 : Int32))) h _ _ _ hW hS (lv_sub hl [1, 2, 3, 0] rfl)
def fX12_number (x1 : Int32) (x2 : Int32) (σ : Mem) : Option (Int32 × Mem) :=
  (fX12_isFine σ).bind fun v1 => if v1 = 0 then (some (x1, σ)) else ((fX12_look σ).bind fun v10 => (fX12_number_l17 x1 x2 FU (0 : Int32) v10.2).bind fun q17 => if (q17.2 0 13) = (q17.2 0 14) then ((fX12_wrongAt (q17.2 0 14) q17.2).bind fun v115 => some (x1, v115)) else (if (4 : Int32) < ((q17.2 0 13) - (q17.2 0 14)) then ((fX12_wrongAt (q17.2 0 14) q17.2).bind fun v115 => some (x1, v115)) else ((fX12_isIn q17.1.toInt64 x1.toInt64 x2.toInt64 q17.2).bind fun v104 => if v104 = 0 then ((fX12_wrongAt (q17.2 0 14) q17.2).bind fun v115 => some (x1, v115)) else (some (q17.1, q17.2)))))
set_option maxRecDepth 100000 in
set_option maxHeartbeats 4000000 in
theorem mX12_number {l : Launch} {E : Ev} {b : Nat} (x1 : Int32) (x2 : Int32) (σ : Mem) (r : (Int32 × Mem)) (h : fX12_number x1 x2 σ = some r) : Met l yX12_number (tw yX12_number cX12_number 5 (some .int)) { frames := 2, cells := 0, slots := 0, locals := 40 } (va_Pc [.ref (b + 0), .int x1, .int x2] (Pr l E (LM E b) σ)) (Qz E (LM E b) (some (.int r.1)) r.2) 0 0 (La (LM E b)) := by
  refine ct_of (by decide) (Nat.le_of_ble_eq_true rfl) ?_
  intro p e s m below meth c C hW hS ls hl
  have hx0 := C.1
  have hb := C.2.1
  have hl : lv_has ls 5 [(0, .ref (b + 0)), (1, .int x1), (2, .int x2)] := hl
  unfold fX12_number at h
  refine lv_aload_n hx0 hb dX12_number_0 rfl (lv_at hl 0 rfl) ?_
  obtain ⟨v1, h1, h⟩ := bnd h
  try dsimp only at h
  refine w_callV (L := (LM E b)) (k := 0) (As := []) (rest := []) C hW hS (show 0 < 18 by decide) cm0 kcX12 (mX12_isFine   σ v1 h1) cwX12_isFine cvX12_isFine rfl mlX12_118 ⟨by decide, by decide⟩ rfl hl.1 (Nat.le_of_ble_eq_true rfl) ⟨by decide, by decide⟩ dX12_number_1 rfl (fun H locs hW hS => ?_)
  refine lv_if_ne (tgt := 9) hx0 hb dX12_number_4 (by decide) (fun c4 => ?_) (fun c4 => ?_)
  · rw [if_neg c4] at h
    refine lv_aload_n hx0 hb dX12_number_9 rfl (lv_at hl 0 rfl) ?_
    obtain ⟨v10, h10, h⟩ := bnd h
    try dsimp only at h
    refine w_callV (L := (LM E b)) (k := 0) (As := []) (rest := []) C hW hS (show 0 < 18 by decide) cm0 kcX12 (mX12_look   σ v10 h10) cwX12_look cvX12_look rfl mlX12_122 ⟨by decide, by decide⟩ rfl hl.1 (Nat.le_of_ble_eq_true rfl) ⟨by decide, by decide⟩ dX12_number_10 rfl (fun H locs hW hS => ?_)
    refine lv_istore_n (lv' := [(3, .int v10.1), (0, .ref (b + 0)), (1, .int x1), (2, .int x2)]) hx0 hb dX12_number_13 rfl hl (by decide) rfl (fun ls hl => ?_)
    refine lv_iconst (v := (0 : Int32)) hx0 hb dX12_number_14 (by decide) ?_
    refine lv_istore (lv' := [(4, .int (0 : Int32)), (3, .int v10.1), (0, .ref (b + 0)), (1, .int x1), (2, .int x2)]) hx0 hb dX12_number_15 hl (by decide) rfl (fun ls hl => ?_)
    obtain ⟨q17, h17, h⟩ := bnd h
    try dsimp only at h
    refine bX12_number_l17 C x1 x2  (q := q17) ?_ FU (0 : Int32) v10.2 h17 _ _ _ hW hS (lv_sub hl [2, 3, 4, 0] rfl)
    intro H locs ls hW hS hl
    refine lv_aload_n hx0 hb dX12_number_73 rfl (lv_at hl 0 rfl) ?_
    refine gtX12_13 C hW flX12_105 dX12_number_74 ?_
    refine lv_aload_n hx0 hb dX12_number_77 rfl (lv_at hl 0 rfl) ?_
    refine gtX12_14 C hW flX12_112 dX12_number_78 ?_
    refine lv_icmp_eq (tgt := 110) hx0 hb dX12_number_81 (by decide) (fun c81 => ?_) (fun c81 => ?_)
    · rw [if_pos c81] at h
      refine lv_aload_n hx0 hb dX12_number_110 rfl (lv_at hl 0 rfl) ?_
      refine lv_aload_n hx0 hb dX12_number_111 rfl (lv_at hl 0 rfl) ?_
      refine gtX12_14 C hW flX12_112 dX12_number_112 ?_
      obtain ⟨v115, h115, h⟩ := bnd h
      try dsimp only at h
      refine w_callV (L := (LM E b)) (k := 0) (As := [.int (q17.2 0 14)]) (rest := []) C hW hS (show 0 < 18 by decide) cm0 kcX12 (mX12_wrongAt (q17.2 0 14)  q17.2 v115 h115) cwX12_wrongAt cvX12_wrongAt rfl mlX12_140 ⟨by decide, by decide⟩ rfl hl.1 (Nat.le_of_ble_eq_true rfl) ⟨by decide, by decide⟩ dX12_number_115 rfl (fun H locs hW hS => ?_)
      refine lv_iload_n hx0 hb dX12_number_118 rfl (lv_at hl 1 rfl) ?_
      cases h
      exact w_iret C hW hS dX12_number_119
    · rw [if_neg c81] at h
      refine lv_aload_n hx0 hb dX12_number_84 rfl (lv_at hl 0 rfl) ?_
      refine gtX12_13 C hW flX12_105 dX12_number_85 ?_
      refine lv_aload_n hx0 hb dX12_number_88 rfl (lv_at hl 0 rfl) ?_
      refine gtX12_14 C hW flX12_112 dX12_number_89 ?_
      refine lv_isub hx0 hb dX12_number_92 ?_
      refine lv_iconst (v := (4 : Int32)) hx0 hb dX12_number_93 (by decide) ?_
      refine lv_icmp_gt (tgt := 110) hx0 hb dX12_number_94 (by decide) (fun c94 => ?_) (fun c94 => ?_)
      · rw [if_pos c94] at h
        refine lv_aload_n hx0 hb dX12_number_110 rfl (lv_at hl 0 rfl) ?_
        refine lv_aload_n hx0 hb dX12_number_111 rfl (lv_at hl 0 rfl) ?_
        refine gtX12_14 C hW flX12_112 dX12_number_112 ?_
        obtain ⟨v115, h115, h⟩ := bnd h
        try dsimp only at h
        refine w_callV (L := (LM E b)) (k := 0) (As := [.int (q17.2 0 14)]) (rest := []) C hW hS (show 0 < 18 by decide) cm0 kcX12 (mX12_wrongAt (q17.2 0 14)  q17.2 v115 h115) cwX12_wrongAt cvX12_wrongAt rfl mlX12_140 ⟨by decide, by decide⟩ rfl hl.1 (Nat.le_of_ble_eq_true rfl) ⟨by decide, by decide⟩ dX12_number_115 rfl (fun H locs hW hS => ?_)
        refine lv_iload_n hx0 hb dX12_number_118 rfl (lv_at hl 1 rfl) ?_
        cases h
        exact w_iret C hW hS dX12_number_119
      · rw [if_neg c94] at h
        refine lv_iload hx0 hb dX12_number_97 (lv_at hl 3 rfl) ?_
        refine lv_i2l hx0 hb dX12_number_99 rfl ?_
        refine lv_iload_n hx0 hb dX12_number_100 rfl (lv_at hl 1 rfl) ?_
        refine lv_i2l hx0 hb dX12_number_101 rfl ?_
        refine lv_iload_n hx0 hb dX12_number_102 rfl (lv_at hl 2 rfl) ?_
        refine lv_i2l hx0 hb dX12_number_103 rfl ?_
        obtain ⟨v104, h104, h⟩ := bnd h
        try dsimp only at h
        refine w_callS (L := (LM E b)) (As := [.long q17.1.toInt64, .long x1.toInt64, .long x2.toInt64]) (rest := []) C hW hS (mX12_isIn q17.1.toInt64 x1.toInt64 x2.toInt64  q17.2 v104 h104) cwX12_isIn csX12_isIn mlX12_101 ⟨by decide, by decide⟩ rfl hl.1 (Nat.le_of_ble_eq_true rfl) ⟨by decide, by decide⟩ dX12_number_104 rfl (fun H locs hW hS => ?_)
        refine lv_if_ne (tgt := 120) hx0 hb dX12_number_107 (by decide) (fun c107 => ?_) (fun c107 => ?_)
        · rw [if_neg c107] at h
          refine lv_iload hx0 hb dX12_number_120 (lv_at hl 3 rfl) ?_
          cases h
          exact w_iret C hW hS dX12_number_122
        · rw [if_pos c107] at h
          refine lv_aload_n hx0 hb dX12_number_110 rfl (lv_at hl 0 rfl) ?_
          refine lv_aload_n hx0 hb dX12_number_111 rfl (lv_at hl 0 rfl) ?_
          refine gtX12_14 C hW flX12_112 dX12_number_112 ?_
          obtain ⟨v115, h115, h⟩ := bnd h
          try dsimp only at h
          refine w_callV (L := (LM E b)) (k := 0) (As := [.int (q17.2 0 14)]) (rest := []) C hW hS (show 0 < 18 by decide) cm0 kcX12 (mX12_wrongAt (q17.2 0 14)  q17.2 v115 h115) cwX12_wrongAt cvX12_wrongAt rfl mlX12_140 ⟨by decide, by decide⟩ rfl hl.1 (Nat.le_of_ble_eq_true rfl) ⟨by decide, by decide⟩ dX12_number_115 rfl (fun H locs hW hS => ?_)
          refine lv_iload_n hx0 hb dX12_number_118 rfl (lv_at hl 1 rfl) ?_
          cases h
          exact w_iret C hW hS dX12_number_119
  · rw [if_pos c4] at h
    refine lv_iload_n hx0 hb dX12_number_7 rfl (lv_at hl 1 rfl) ?_
    cases h
    exact w_iret C hW hS dX12_number_8
def fX12_leavesRead_l4 : Nat → Int32 → Int32 → Mem → Option (Int32 × Int32)
  | 0, _, _, _ => none
  | n + 1, x1, x2, σ => if (σ 0 4) ≤ x2 then (some (x1, x2)) else (if x2 < 0 ∨ lm 2 ≤ x2.toNatClampNeg then none else fX12_leavesRead_l4 n (x1 + (σ 2 x2.toNatClampNeg)) (x2 + (1 : Int32)) σ)
set_option maxRecDepth 100000 in
set_option maxHeartbeats 4000000 in
theorem bX12_leavesRead_l4 {p : Program} {l : Launch} {e : Env} {s : State} {m : MethodId} {args : Array Value} {below : List Frame} {meth : Method} {c : Code} {E : Ev} {b : Nat} (C : Cx p l s m args meth c E cX12_leavesRead 3 RX12 (some .int)) (σ : Mem) {Qf : State → Prop} {q : Int32 × Int32} (hx : ∀ H locs ls, Wd E (LM E b) σ H → va_S (La (LM E b)) s.heap H locs → lv_has ls 3 [(0, .ref (b + 0)), (1, .int q.1), (2, .int q.2)] → W p l e { frames := 0, cells := 0, slots := 0, locals := 0 } s m args below meth c H locs 0 0 Qf (F0 m 27 ls [])) : ∀ (n : Nat) (x1 : Int32) (x2 : Int32), fX12_leavesRead_l4 n x1 x2 σ = some q → ∀ (H : Heap) (locs : List Loc) (ls : Array Slot), Wd E (LM E b) σ H → va_S (La (LM E b)) s.heap H locs → lv_has ls 3 [(0, .ref (b + 0)), (1, .int x1), (2, .int x2)] → W p l e { frames := 0, cells := 0, slots := 0, locals := 0 } s m args below meth c H locs 0 0 Qf (F0 m 4 ls []) := by
  have hx0 := C.1
  have hb := C.2.1
  intro n
  induction n with
  | zero => intro x1 x2 h; simp [fX12_leavesRead_l4] at h
  | succ n ih =>
    intro x1 x2 h H locs ls hW hS hl
    unfold fX12_leavesRead_l4 at h
    refine lv_iload_n hx0 hb dX12_leavesRead_4 rfl (lv_at hl 2 rfl) ?_
    refine lv_aload_n hx0 hb dX12_leavesRead_5 rfl (lv_at hl 0 rfl) ?_
    refine gtX12_4 C hW flX12_67 dX12_leavesRead_6 ?_
    refine lv_icmp_ge (tgt := 27) hx0 hb dX12_leavesRead_9 (by decide) (fun c9 => ?_) (fun c9 => ?_)
    · rw [if_pos c9] at h
      cases h
      exact hx _ _ _ hW hS (lv_sub hl [0, 1, 2] rfl)
    · rw [if_neg c9] at h
      refine lv_iload_n hx0 hb dX12_leavesRead_12 rfl (lv_at hl 1 rfl) ?_
      refine lv_aload_n hx0 hb dX12_leavesRead_13 rfl (lv_at hl 0 rfl) ?_
      refine gtX12_2 C hW flX12_17 dX12_leavesRead_14 ?_
      refine lv_iload_n hx0 hb dX12_leavesRead_17 rfl (lv_at hl 2 rfl) ?_
      by_cases z18 : x2 < 0 ∨ lm 2 ≤ x2.toNatClampNeg
      · rw [if_pos z18] at h; cases h
      rw [if_neg z18] at h
      refine ldIm (k := 2) C hW (by decide) z18 dX12_leavesRead_18 ?_
      refine lv_iadd hx0 hb dX12_leavesRead_19 ?_
      refine lv_istore_n (lv' := [(1, .int (x1 + (σ 2 x2.toNatClampNeg))), (0, .ref (b + 0)), (2, .int x2)]) hx0 hb dX12_leavesRead_20 rfl hl (by decide) rfl (fun ls hl => ?_)
      refine lv_iinc (v := x2 + (1 : Int32)) (lv' := [(2, .int (x2 + (1 : Int32))), (1, .int (x1 + (σ 2 x2.toNatClampNeg))), (0, .ref (b + 0))]) hx0 hb dX12_leavesRead_21 hl (k := 2) rfl rfl (by decide) rfl (fun ls hl => ?_)
      refine lv_goto (tgt := 4) hx0 hb dX12_leavesRead_24 (by decide) ?_
      exact ih (x1 + (σ 2 x2.toNatClampNeg)) (x2 + (1 : Int32)) h _ _ _ hW hS (lv_sub hl [2, 1, 0] rfl)
def fX12_leavesRead (σ : Mem) : Option Int32 :=
  (fX12_leavesRead_l4 FU (0 : Int32) (0 : Int32) σ).bind fun q4 => some q4.1
set_option maxRecDepth 100000 in
set_option maxHeartbeats 4000000 in
theorem mX12_leavesRead {l : Launch} {E : Ev} {b : Nat} (σ : Mem) (r : Int32) (h : fX12_leavesRead σ = some r) : Met l yX12_leavesRead (tw yX12_leavesRead cX12_leavesRead 3 (some .int)) { frames := 0, cells := 0, slots := 0, locals := 0 } (va_Pc [.ref (b + 0)] (Pr l E (LM E b) σ)) (Qz E (LM E b) (some (.int r)) σ) 0 0 (La (LM E b)) := by
  refine ct_of (by decide) (Nat.le_of_ble_eq_true rfl) ?_
  intro p e s m below meth c C hW hS ls hl
  have hx0 := C.1
  have hb := C.2.1
  have hl : lv_has ls 3 [(0, .ref (b + 0))] := hl
  unfold fX12_leavesRead at h
  refine lv_iconst (v := (0 : Int32)) hx0 hb dX12_leavesRead_0 (by decide) ?_
  refine lv_istore_n (lv' := [(1, .int (0 : Int32)), (0, .ref (b + 0))]) hx0 hb dX12_leavesRead_1 rfl hl (by decide) rfl (fun ls hl => ?_)
  refine lv_iconst (v := (0 : Int32)) hx0 hb dX12_leavesRead_2 (by decide) ?_
  refine lv_istore_n (lv' := [(2, .int (0 : Int32)), (1, .int (0 : Int32)), (0, .ref (b + 0))]) hx0 hb dX12_leavesRead_3 rfl hl (by decide) rfl (fun ls hl => ?_)
  obtain ⟨q4, h4, h⟩ := bnd h
  try dsimp only at h
  refine bX12_leavesRead_l4 C   σ (q := q4) ?_ FU (0 : Int32) (0 : Int32) h4 _ _ _ hW hS (lv_sub hl [2, 1, 0] rfl)
  intro H locs ls hW hS hl
  refine lv_iload_n hx0 hb dX12_leavesRead_27 rfl (lv_at hl 1 rfl) ?_
  cases h
  exact w_iret C hW hS dX12_leavesRead_28
def fX12_leafRead (x1 : Int32) (σ : Mem) : Option (Int32 × Mem) :=
  (fX12_leavesRead σ).bind fun v3 => (fX12_number x1 (v3 - (1 : Int32)) σ).bind fun v8 => some (v8.1, v8.2)
set_option maxRecDepth 100000 in
set_option maxHeartbeats 4000000 in
theorem mX12_leafRead {l : Launch} {E : Ev} {b : Nat} (x1 : Int32) (σ : Mem) (r : (Int32 × Mem)) (h : fX12_leafRead x1 σ = some r) : Met l yX12_leafRead (tw yX12_leafRead cX12_leafRead 2 (some .int)) { frames := 3, cells := 0, slots := 0, locals := 64 } (va_Pc [.ref (b + 0), .int x1] (Pr l E (LM E b) σ)) (Qz E (LM E b) (some (.int r.1)) r.2) 0 0 (La (LM E b)) := by
  refine ct_of (by decide) (Nat.le_of_ble_eq_true rfl) ?_
  intro p e s m below meth c C hW hS ls hl
  have hx0 := C.1
  have hb := C.2.1
  have hl : lv_has ls 2 [(0, .ref (b + 0)), (1, .int x1)] := hl
  unfold fX12_leafRead at h
  refine lv_aload_n hx0 hb dX12_leafRead_0 rfl (lv_at hl 0 rfl) ?_
  refine lv_iload_n hx0 hb dX12_leafRead_1 rfl (lv_at hl 1 rfl) ?_
  refine lv_aload_n hx0 hb dX12_leafRead_2 rfl (lv_at hl 0 rfl) ?_
  obtain ⟨v3, h3, h⟩ := bnd h
  try dsimp only at h
  refine w_callV (L := (LM E b)) (k := 0) (As := []) (rest := [.int x1, .ref (b + 0)]) C hW hS (show 0 < 18 by decide) cm0 kcX12 (mX12_leavesRead   σ v3 h3) cwX12_leavesRead cvX12_leavesRead rfl mlX12_143 ⟨by decide, by decide⟩ rfl hl.1 (Nat.le_of_ble_eq_true rfl) ⟨by decide, by decide⟩ dX12_leafRead_3 rfl (fun H locs hW hS => ?_)
  refine lv_iconst (v := (1 : Int32)) hx0 hb dX12_leafRead_6 (by decide) ?_
  refine lv_isub hx0 hb dX12_leafRead_7 ?_
  obtain ⟨v8, h8, h⟩ := bnd h
  try dsimp only at h
  refine w_callV (L := (LM E b)) (k := 0) (As := [.int x1, .int (v3 - (1 : Int32))]) (rest := []) C hW hS (show 0 < 18 by decide) cm0 kcX12 (mX12_number x1 (v3 - (1 : Int32))  σ v8 h8) cwX12_number cvX12_number rfl mlX12_146 ⟨by decide, by decide⟩ rfl hl.1 (Nat.le_of_ble_eq_true rfl) ⟨by decide, by decide⟩ dX12_leafRead_8 rfl (fun H locs hW hS => ?_)
  cases h
  exact w_iret C hW hS dX12_leafRead_11
def fX12_readsQuire (x1 : Int32) (σ : Mem) : Option Mem :=
  if (σ 0 4) = (8 : Int32) then ((fX12_wrongAt x1 σ).bind fun v11 => some v11) else ((fX12_leavesRead σ).bind fun v22 => (fX12_number (2 : Int32) (if ((60 : Int32) - v22) < (12 : Int32) then ((60 : Int32) - v22) else (12 : Int32)) σ).bind fun v29 => (fX12_isFine v29.2).bind fun v34 => if v34 = 0 then (if (v29.2 0 4) < 0 ∨ lm 2 ≤ (v29.2 0 4).toNatClampNeg then none else some (up (up v29.2 2 (v29.2 0 4).toNatClampNeg v29.1) 0 4 (((up v29.2 2 (v29.2 0 4).toNatClampNeg v29.1) 0 4) + (1 : Int32)))) else (if (v29.1 - v29.1 / (2 : Int32) * (2 : Int32)) = (1 : Int32) then ((fX12_wrongAt (v29.2 0 14) v29.2).bind fun v52 => if (v52 0 4) < 0 ∨ lm 2 ≤ (v52 0 4).toNatClampNeg then none else some (up (up v52 2 (v52 0 4).toNatClampNeg v29.1) 0 4 (((up v52 2 (v52 0 4).toNatClampNeg v29.1) 0 4) + (1 : Int32)))) else (if (v29.2 0 4) < 0 ∨ lm 2 ≤ (v29.2 0 4).toNatClampNeg then none else some (up (up v29.2 2 (v29.2 0 4).toNatClampNeg v29.1) 0 4 (((up v29.2 2 (v29.2 0 4).toNatClampNeg v29.1) 0 4) + (1 : Int32))))))
set_option maxRecDepth 100000 in
set_option maxHeartbeats 4000000 in
theorem mX12_readsQuire {l : Launch} {E : Ev} {b : Nat} (x1 : Int32) (σ : Mem) (r : Mem) (h : fX12_readsQuire x1 σ = some r) : Met l yX12_readsQuire (tw yX12_readsQuire cX12_readsQuire 3 none) { frames := 3, cells := 0, slots := 0, locals := 64 } (va_Pc [.ref (b + 0), .int x1] (Pr l E (LM E b) σ)) (Qz E (LM E b) none r) 0 0 (La (LM E b)) := by
  refine ct_of (by decide) (Nat.le_of_ble_eq_true rfl) ?_
  intro p e s m below meth c C hW hS ls hl
  have hx0 := C.1
  have hb := C.2.1
  have hl : lv_has ls 3 [(0, .ref (b + 0)), (1, .int x1)] := hl
  unfold fX12_readsQuire at h
  refine lv_aload_n hx0 hb dX12_readsQuire_0 rfl (lv_at hl 0 rfl) ?_
  refine gtX12_4 C hW flX12_67 dX12_readsQuire_1 ?_
  refine lv_bipush (v := (8 : Int32)) hx0 hb dX12_readsQuire_4 (by decide) ?_
  refine lv_icmp_ne (tgt := 15) hx0 hb dX12_readsQuire_6 (by decide) (fun c6 => ?_) (fun c6 => ?_)
  · rw [if_neg c6] at h
    refine lv_aload_n hx0 hb dX12_readsQuire_15 rfl (lv_at hl 0 rfl) ?_
    refine lv_iconst (v := (2 : Int32)) hx0 hb dX12_readsQuire_16 (by decide) ?_
    refine lv_bipush (v := (12 : Int32)) hx0 hb dX12_readsQuire_17 (by decide) ?_
    refine lv_bipush (v := (60 : Int32)) hx0 hb dX12_readsQuire_19 (by decide) ?_
    refine lv_aload_n hx0 hb dX12_readsQuire_21 rfl (lv_at hl 0 rfl) ?_
    obtain ⟨v22, h22, h⟩ := bnd h
    try dsimp only at h
    refine w_callV (L := (LM E b)) (k := 0) (As := []) (rest := [.int (60 : Int32), .int (12 : Int32), .int (2 : Int32), .ref (b + 0)]) C hW hS (show 0 < 18 by decide) cm0 kcX12 (mX12_leavesRead   σ v22 h22) cwX12_leavesRead cvX12_leavesRead rfl mlX12_143 ⟨by decide, by decide⟩ rfl hl.1 (Nat.le_of_ble_eq_true rfl) ⟨by decide, by decide⟩ dX12_readsQuire_22 rfl (fun H locs hW hS => ?_)
    refine lv_isub hx0 hb dX12_readsQuire_25 ?_
    refine w_mmin C hl.1 mlX12_150 ⟨by decide, Nat.le_of_ble_eq_true rfl⟩ ⟨by decide, by decide⟩ dX12_readsQuire_26 ?_
    obtain ⟨v29, h29, h⟩ := bnd h
    try dsimp only at h
    refine w_callV (L := (LM E b)) (k := 0) (As := [.int (2 : Int32), .int (if ((60 : Int32) - v22) < (12 : Int32) then ((60 : Int32) - v22) else (12 : Int32))]) (rest := []) C hW hS (show 0 < 18 by decide) cm0 kcX12 (mX12_number (2 : Int32) (if ((60 : Int32) - v22) < (12 : Int32) then ((60 : Int32) - v22) else (12 : Int32))  σ v29 h29) cwX12_number cvX12_number rfl mlX12_146 ⟨by decide, by decide⟩ rfl hl.1 (Nat.le_of_ble_eq_true rfl) ⟨by decide, by decide⟩ dX12_readsQuire_29 rfl (fun H locs hW hS => ?_)
    refine lv_istore_n (lv' := [(2, .int v29.1), (0, .ref (b + 0)), (1, .int x1)]) hx0 hb dX12_readsQuire_32 rfl hl (by decide) rfl (fun ls hl => ?_)
    refine lv_aload_n hx0 hb dX12_readsQuire_33 rfl (lv_at hl 1 rfl) ?_
    obtain ⟨v34, h34, h⟩ := bnd h
    try dsimp only at h
    refine w_callV (L := (LM E b)) (k := 0) (As := []) (rest := []) C hW hS (show 0 < 18 by decide) cm0 kcX12 (mX12_isFine   v29.2 v34 h34) cwX12_isFine cvX12_isFine rfl mlX12_118 ⟨by decide, by decide⟩ rfl hl.1 (Nat.le_of_ble_eq_true rfl) ⟨by decide, by decide⟩ dX12_readsQuire_34 rfl (fun H locs hW hS => ?_)
    refine lv_if_eq (tgt := 55) hx0 hb dX12_readsQuire_37 (by decide) (fun c37 => ?_) (fun c37 => ?_)
    · rw [if_pos c37] at h
      refine lv_aload_n hx0 hb dX12_readsQuire_55 rfl (lv_at hl 1 rfl) ?_
      refine gtX12_2 C hW flX12_17 dX12_readsQuire_56 ?_
      refine lv_aload_n hx0 hb dX12_readsQuire_59 rfl (lv_at hl 1 rfl) ?_
      refine gtX12_4 C hW flX12_67 dX12_readsQuire_60 ?_
      refine lv_iload_n hx0 hb dX12_readsQuire_63 rfl (lv_at hl 0 rfl) ?_
      by_cases z64 : (v29.2 0 4) < 0 ∨ lm 2 ≤ (v29.2 0 4).toNatClampNeg
      · rw [if_pos z64] at h; cases h
      rw [if_neg z64] at h
      refine saIm (k := 2) C hW hS (by decide) z64 dX12_readsQuire_64 (fun H locs hW hS => ?_)
      refine lv_aload_n hx0 hb dX12_readsQuire_65 rfl (lv_at hl 1 rfl) ?_
      refine lv_dup hx0 hb dX12_readsQuire_66 rfl ?_
      refine gtX12_4 C hW flX12_67 dX12_readsQuire_67 ?_
      refine lv_iconst (v := (1 : Int32)) hx0 hb dX12_readsQuire_70 (by decide) ?_
      refine lv_iadd hx0 hb dX12_readsQuire_71 ?_
      refine ptX12_4 C hW hS flX12_67 dX12_readsQuire_72 (fun H locs hW hS => ?_)
      cases h
      exact w_vret C hW hS dX12_readsQuire_75
    · rw [if_neg c37] at h
      refine lv_iload_n hx0 hb dX12_readsQuire_40 rfl (lv_at hl 0 rfl) ?_
      refine lv_iconst (v := (2 : Int32)) hx0 hb dX12_readsQuire_41 (by decide) ?_
      refine lv_irem hx0 hb dX12_readsQuire_42 (by decide) ?_
      refine lv_iconst (v := (1 : Int32)) hx0 hb dX12_readsQuire_43 (by decide) ?_
      refine lv_icmp_ne (tgt := 55) hx0 hb dX12_readsQuire_44 (by decide) (fun c44 => ?_) (fun c44 => ?_)
      · rw [if_neg c44] at h
        refine lv_aload_n hx0 hb dX12_readsQuire_55 rfl (lv_at hl 1 rfl) ?_
        refine gtX12_2 C hW flX12_17 dX12_readsQuire_56 ?_
        refine lv_aload_n hx0 hb dX12_readsQuire_59 rfl (lv_at hl 1 rfl) ?_
        refine gtX12_4 C hW flX12_67 dX12_readsQuire_60 ?_
        refine lv_iload_n hx0 hb dX12_readsQuire_63 rfl (lv_at hl 0 rfl) ?_
        by_cases z64 : (v29.2 0 4) < 0 ∨ lm 2 ≤ (v29.2 0 4).toNatClampNeg
        · rw [if_pos z64] at h; cases h
        rw [if_neg z64] at h
        refine saIm (k := 2) C hW hS (by decide) z64 dX12_readsQuire_64 (fun H locs hW hS => ?_)
        refine lv_aload_n hx0 hb dX12_readsQuire_65 rfl (lv_at hl 1 rfl) ?_
        refine lv_dup hx0 hb dX12_readsQuire_66 rfl ?_
        refine gtX12_4 C hW flX12_67 dX12_readsQuire_67 ?_
        refine lv_iconst (v := (1 : Int32)) hx0 hb dX12_readsQuire_70 (by decide) ?_
        refine lv_iadd hx0 hb dX12_readsQuire_71 ?_
        refine ptX12_4 C hW hS flX12_67 dX12_readsQuire_72 (fun H locs hW hS => ?_)
        cases h
        exact w_vret C hW hS dX12_readsQuire_75
      · rw [if_pos c44] at h
        refine lv_aload_n hx0 hb dX12_readsQuire_47 rfl (lv_at hl 1 rfl) ?_
        refine lv_aload_n hx0 hb dX12_readsQuire_48 rfl (lv_at hl 1 rfl) ?_
        refine gtX12_14 C hW flX12_112 dX12_readsQuire_49 ?_
        obtain ⟨v52, h52, h⟩ := bnd h
        try dsimp only at h
        refine w_callV (L := (LM E b)) (k := 0) (As := [.int (v29.2 0 14)]) (rest := []) C hW hS (show 0 < 18 by decide) cm0 kcX12 (mX12_wrongAt (v29.2 0 14)  v29.2 v52 h52) cwX12_wrongAt cvX12_wrongAt rfl mlX12_140 ⟨by decide, by decide⟩ rfl hl.1 (Nat.le_of_ble_eq_true rfl) ⟨by decide, by decide⟩ dX12_readsQuire_52 rfl (fun H locs hW hS => ?_)
        refine lv_aload_n hx0 hb dX12_readsQuire_55 rfl (lv_at hl 1 rfl) ?_
        refine gtX12_2 C hW flX12_17 dX12_readsQuire_56 ?_
        refine lv_aload_n hx0 hb dX12_readsQuire_59 rfl (lv_at hl 1 rfl) ?_
        refine gtX12_4 C hW flX12_67 dX12_readsQuire_60 ?_
        refine lv_iload_n hx0 hb dX12_readsQuire_63 rfl (lv_at hl 0 rfl) ?_
        by_cases z64 : (v52 0 4) < 0 ∨ lm 2 ≤ (v52 0 4).toNatClampNeg
        · rw [if_pos z64] at h; cases h
        rw [if_neg z64] at h
        refine saIm (k := 2) C hW hS (by decide) z64 dX12_readsQuire_64 (fun H locs hW hS => ?_)
        refine lv_aload_n hx0 hb dX12_readsQuire_65 rfl (lv_at hl 1 rfl) ?_
        refine lv_dup hx0 hb dX12_readsQuire_66 rfl ?_
        refine gtX12_4 C hW flX12_67 dX12_readsQuire_67 ?_
        refine lv_iconst (v := (1 : Int32)) hx0 hb dX12_readsQuire_70 (by decide) ?_
        refine lv_iadd hx0 hb dX12_readsQuire_71 ?_
        refine ptX12_4 C hW hS flX12_67 dX12_readsQuire_72 (fun H locs hW hS => ?_)
        cases h
        exact w_vret C hW hS dX12_readsQuire_75
  · rw [if_pos c6] at h
    refine lv_aload_n hx0 hb dX12_readsQuire_9 rfl (lv_at hl 0 rfl) ?_
    refine lv_iload_n hx0 hb dX12_readsQuire_10 rfl (lv_at hl 1 rfl) ?_
    obtain ⟨v11, h11, h⟩ := bnd h
    try dsimp only at h
    refine w_callV (L := (LM E b)) (k := 0) (As := [.int x1]) (rest := []) C hW hS (show 0 < 18 by decide) cm0 kcX12 (mX12_wrongAt x1  σ v11 h11) cwX12_wrongAt cvX12_wrongAt rfl mlX12_140 ⟨by decide, by decide⟩ rfl hl.1 (Nat.le_of_ble_eq_true rfl) ⟨by decide, by decide⟩ dX12_readsQuire_11 rfl (fun H locs hW hS => ?_)
    cases h
    exact w_vret C hW hS dX12_readsQuire_14
