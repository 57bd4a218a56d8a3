/-! PageArchive$SetupReader, by program out of the bytecode -/
def fX6_kindOf (x0 : Int32) (σ : Mem) : Option Int32 :=
  if x0 = (-1 : Int32) then (some (0 : Int32)) else (if x0 < (97 : Int32) then (if x0 < (48 : Int32) then (some (3 : Int32)) else (if (57 : Int32) < x0 then (some (3 : Int32)) else (some (2 : Int32)))) else (if (122 : Int32) < x0 then (if x0 < (48 : Int32) then (some (3 : Int32)) else (if (57 : Int32) < x0 then (some (3 : Int32)) else (some (2 : Int32)))) else (some (1 : Int32))))
set_option maxRecDepth 100000 in
set_option maxHeartbeats 4000000 in
theorem mX6_kindOf {l : Launch} {E : Ev} {b : Nat} (x0 : Int32) (σ : Mem) (r : Int32) (h : fX6_kindOf x0 σ = some r) : Met l yX6_kindOf (tw yX6_kindOf cX6_kindOf 1 (some .int)) { frames := 0, cells := 0, slots := 0, locals := 0 } (va_Pc [.int x0] (Pr l E (LC E b) σ)) (Qz E (LC E b) (some (.int r)) σ) 0 0 (La (LC E b)) := by
  refine ct_of (by decide) (Nat.le_of_ble_eq_true rfl) ?_
  intro p e s m below meth c C hW hS ls hl
  have hx0 := C.1
  have hb := C.2.1
  have hl : lv_has ls 1 [(0, .int x0)] := hl
  unfold fX6_kindOf at h
  refine lv_iload_n hx0 hb dX6_kindOf_0 rfl (lv_at hl 0 rfl) ?_
  refine lv_iconst (v := (-1 : Int32)) hx0 hb dX6_kindOf_1 (by decide) ?_
  refine lv_icmp_ne (tgt := 7) hx0 hb dX6_kindOf_2 (by decide) (fun c2 => ?_) (fun c2 => ?_)
  · rw [if_neg c2] at h
    refine lv_iload_n hx0 hb dX6_kindOf_7 rfl (lv_at hl 0 rfl) ?_
    refine lv_bipush (v := (97 : Int32)) hx0 hb dX6_kindOf_8 (by decide) ?_
    refine lv_icmp_lt (tgt := 21) hx0 hb dX6_kindOf_10 (by decide) (fun c10 => ?_) (fun c10 => ?_)
    · rw [if_pos c10] at h
      refine lv_iload_n hx0 hb dX6_kindOf_21 rfl (lv_at hl 0 rfl) ?_
      refine lv_bipush (v := (48 : Int32)) hx0 hb dX6_kindOf_22 (by decide) ?_
      refine lv_icmp_lt (tgt := 37) hx0 hb dX6_kindOf_24 (by decide) (fun c24 => ?_) (fun c24 => ?_)
      · rw [if_pos c24] at h
        refine lv_iconst (v := (3 : Int32)) hx0 hb dX6_kindOf_37 (by decide) ?_
        cases h
        exact w_iret C hW hS dX6_kindOf_38
      · rw [if_neg c24] at h
        refine lv_iload_n hx0 hb dX6_kindOf_27 rfl (lv_at hl 0 rfl) ?_
        refine lv_bipush (v := (57 : Int32)) hx0 hb dX6_kindOf_28 (by decide) ?_
        refine lv_icmp_gt (tgt := 37) hx0 hb dX6_kindOf_30 (by decide) (fun c30 => ?_) (fun c30 => ?_)
        · rw [if_pos c30] at h
          refine lv_iconst (v := (3 : Int32)) hx0 hb dX6_kindOf_37 (by decide) ?_
          cases h
          exact w_iret C hW hS dX6_kindOf_38
        · rw [if_neg c30] at h
          refine lv_iconst (v := (2 : Int32)) hx0 hb dX6_kindOf_33 (by decide) ?_
          refine lv_goto (tgt := 38) hx0 hb dX6_kindOf_34 (by decide) ?_
          cases h
          exact w_iret C hW hS dX6_kindOf_38
    · rw [if_neg c10] at h
      refine lv_iload_n hx0 hb dX6_kindOf_13 rfl (lv_at hl 0 rfl) ?_
      refine lv_bipush (v := (122 : Int32)) hx0 hb dX6_kindOf_14 (by decide) ?_
      refine lv_icmp_gt (tgt := 21) hx0 hb dX6_kindOf_16 (by decide) (fun c16 => ?_) (fun c16 => ?_)
      · rw [if_pos c16] at h
        refine lv_iload_n hx0 hb dX6_kindOf_21 rfl (lv_at hl 0 rfl) ?_
        refine lv_bipush (v := (48 : Int32)) hx0 hb dX6_kindOf_22 (by decide) ?_
        refine lv_icmp_lt (tgt := 37) hx0 hb dX6_kindOf_24 (by decide) (fun c24 => ?_) (fun c24 => ?_)
        · rw [if_pos c24] at h
          refine lv_iconst (v := (3 : Int32)) hx0 hb dX6_kindOf_37 (by decide) ?_
          cases h
          exact w_iret C hW hS dX6_kindOf_38
        · rw [if_neg c24] at h
          refine lv_iload_n hx0 hb dX6_kindOf_27 rfl (lv_at hl 0 rfl) ?_
          refine lv_bipush (v := (57 : Int32)) hx0 hb dX6_kindOf_28 (by decide) ?_
          refine lv_icmp_gt (tgt := 37) hx0 hb dX6_kindOf_30 (by decide) (fun c30 => ?_) (fun c30 => ?_)
          · rw [if_pos c30] at h
            refine lv_iconst (v := (3 : Int32)) hx0 hb dX6_kindOf_37 (by decide) ?_
            cases h
            exact w_iret C hW hS dX6_kindOf_38
          · rw [if_neg c30] at h
            refine lv_iconst (v := (2 : Int32)) hx0 hb dX6_kindOf_33 (by decide) ?_
            refine lv_goto (tgt := 38) hx0 hb dX6_kindOf_34 (by decide) ?_
            cases h
            exact w_iret C hW hS dX6_kindOf_38
      · rw [if_neg c16] at h
        refine lv_iconst (v := (1 : Int32)) hx0 hb dX6_kindOf_19 (by decide) ?_
        cases h
        exact w_iret C hW hS dX6_kindOf_20
  · rw [if_pos c2] at h
    refine lv_iconst (v := (0 : Int32)) hx0 hb dX6_kindOf_5 (by decide) ?_
    cases h
    exact w_iret C hW hS dX6_kindOf_6
def fX6_numberRead_l22 (o0 : Nat) : Nat → Int32 → Int32 → Mem → Option (Int32 × Int32)
  | 0, _, _, _ => none
  | n + 1, x1, x2, σ => if (σ o0 4) ≤ x2 then (some (x1, x2)) else ((fX8_byteAt (o0 + 32) x2 σ).bind fun v39 => fX6_numberRead_l22 o0 n ((((10 : Int32) * x1) + v39) - (48 : Int32)) (x2 + (1 : Int32)) σ)
set_option maxRecDepth 100000 in
set_option maxHeartbeats 4000000 in
theorem bX6_numberRead_l22 {p : Program} {l : Launch} {e : Env} {s : State} {m : MethodId} {args : Array Value} {below : List Frame} {meth : Method} {c : Code} {E : Ev} {b : Nat} (C : Cx p l s m args meth c E cX6_numberRead 3 RX6 (some .int)) (o0 : Nat) (ho0 : kd o0 = 6) (σ : Mem) {Qf : State → Prop} {q : Int32 × Int32} (hx : ∀ H locs ls, Wd E (LC E b) σ H → va_S (La (LC E b)) s.heap H locs → lv_has ls 3 [(0, .ref (b + o0)), (1, .int q.1), (2, .int q.2)] → W p l e { frames := 1, cells := 0, slots := 0, locals := 21 } s m args below meth c H locs 0 0 Qf (F0 m 53 ls [])) : ∀ (n : Nat) (x1 : Int32) (x2 : Int32), fX6_numberRead_l22 o0 n x1 x2 σ = some q → ∀ (H : Heap) (locs : List Loc) (ls : Array Slot), Wd E (LC E b) σ H → va_S (La (LC E b)) s.heap H locs → lv_has ls 3 [(0, .ref (b + o0)), (1, .int x1), (2, .int x2)] → W p l e { frames := 1, cells := 0, slots := 0, locals := 21 } s m args below meth c H locs 0 0 Qf (F0 m 22 ls []) := by
  have hx0 := C.1
  have hb := C.2.1
  intro n
  induction n with
  | zero => intro x1 x2 h; simp [fX6_numberRead_l22] at h
  | succ n ih =>
    intro x1 x2 h H locs ls hW hS hl
    unfold fX6_numberRead_l22 at h
    refine lv_iload_n hx0 hb dX6_numberRead_22 rfl (lv_at hl 2 rfl) ?_
    refine lv_aload_n hx0 hb dX6_numberRead_23 rfl (lv_at hl 0 rfl) ?_
    refine gtX6_4 (k := o0) C hW ho0 flX6_34 dX6_numberRead_24 ?_
    refine lv_icmp_ge (tgt := 53) hx0 hb dX6_numberRead_27 (by decide) (fun c27 => ?_) (fun c27 => ?_)
    · rw [if_pos c27] at h
      cases h
      exact hx _ _ _ hW hS (lv_sub hl [0, 1, 2] rfl)
    · rw [if_neg c27] at h
      refine lv_bipush (v := (10 : Int32)) hx0 hb dX6_numberRead_30 (by decide) ?_
      refine lv_iload_n hx0 hb dX6_numberRead_32 rfl (lv_at hl 1 rfl) ?_
      refine lv_imul hx0 hb dX6_numberRead_33 ?_
      refine lv_aload_n hx0 hb dX6_numberRead_34 rfl (lv_at hl 0 rfl) ?_
      refine gtX6_1 (k := o0) C hW ho0 flX6_23 dX6_numberRead_35 ?_
      refine lv_iload_n hx0 hb dX6_numberRead_38 rfl (lv_at hl 2 rfl) ?_
      obtain ⟨v39, h39, h⟩ := bnd h
      try dsimp only at h
      refine w_callV (L := (LC E b)) (k := o0 + 32) (As := [.int x2]) (rest := [.int ((10 : Int32) * x1)]) C hW hS (kdlt (chX6_1 ho0) (by decide)) (ccX8 (chX6_1 ho0)) kcX8 (mX8_byteAt (o0 + 32) x2 (chX6_1 ho0) σ v39 h39) cwX8_byteAt cvX8_byteAt rfl mlX6_158 ⟨by decide, by decide⟩ rfl hl.1 (Nat.le_of_ble_eq_true rfl) ⟨by decide, by decide⟩ dX6_numberRead_39 rfl (fun H locs hW hS => ?_)
      refine lv_iadd hx0 hb dX6_numberRead_42 ?_
      refine lv_bipush (v := (48 : Int32)) hx0 hb dX6_numberRead_43 (by decide) ?_
      refine lv_isub hx0 hb dX6_numberRead_45 ?_
      refine lv_istore_n (lv' := [(1, .int ((((10 : Int32) * x1) + v39) - (48 : Int32))), (0, .ref (b + o0)), (2, .int x2)]) hx0 hb dX6_numberRead_46 rfl hl (by decide) rfl (fun ls hl => ?_)
      refine lv_iinc (v := x2 + (1 : Int32)) (lv' := [(2, .int (x2 + (1 : Int32))), (1, .int ((((10 : Int32) * x1) + v39) - (48 : Int32))), (0, .ref (b + o0))]) hx0 hb dX6_numberRead_47 hl (k := 2) rfl rfl (by decide) rfl (fun ls hl => ?_)
      refine lv_goto (tgt := 22) hx0 hb dX6_numberRead_50 (by decide) ?_
      exact ih ((((10 : Int32) * x1) + v39) - (48 : Int32)) (x2 + (1 : Int32)) h _ _ _ hW hS (lv_sub hl [2, 1, 0] rfl)
def fX6_numberRead (o0 : Nat) (σ : Mem) : Option Int32 :=
  if ((σ o0 4) - (σ o0 3)) ≤ (4 : Int32) then ((fX6_numberRead_l22 o0 FU (0 : Int32) (σ o0 3) σ).bind fun q22 => some q22.1) else (some (-1 : Int32))
set_option maxRecDepth 100000 in
set_option maxHeartbeats 4000000 in
theorem mX6_numberRead {l : Launch} {E : Ev} {b : Nat} (o0 : Nat) (ho0 : kd o0 = 6) (σ : Mem) (r : Int32) (h : fX6_numberRead o0 σ = some r) : Met l yX6_numberRead (tw yX6_numberRead cX6_numberRead 3 (some .int)) { frames := 1, cells := 0, slots := 0, locals := 21 } (va_Pc [.ref (b + o0)] (Pr l E (LC E b) σ)) (Qz E (LC E b) (some (.int r)) σ) 0 0 (La (LC E b)) := by
  refine ct_of (by decide) (Nat.le_of_ble_eq_true rfl) ?_
  intro p e s m below meth c C hW hS ls hl
  have hx0 := C.1
  have hb := C.2.1
  have hl : lv_has ls 3 [(0, .ref (b + o0))] := hl
  unfold fX6_numberRead at h
  refine lv_aload_n hx0 hb dX6_numberRead_0 rfl (lv_at hl 0 rfl) ?_
  refine gtX6_4 (k := o0) C hW ho0 flX6_34 dX6_numberRead_1 ?_
  refine lv_aload_n hx0 hb dX6_numberRead_4 rfl (lv_at hl 0 rfl) ?_
  refine gtX6_3 (k := o0) C hW ho0 flX6_31 dX6_numberRead_5 ?_
  refine lv_isub hx0 hb dX6_numberRead_8 ?_
  refine lv_iconst (v := (4 : Int32)) hx0 hb dX6_numberRead_9 (by decide) ?_
  refine lv_icmp_le (tgt := 15) hx0 hb dX6_numberRead_10 (by decide) (fun c10 => ?_) (fun c10 => ?_)
  · rw [if_pos c10] at h
    refine lv_iconst (v := (0 : Int32)) hx0 hb dX6_numberRead_15 (by decide) ?_
    refine lv_istore_n (lv' := [(1, .int (0 : Int32)), (0, .ref (b + o0))]) hx0 hb dX6_numberRead_16 rfl hl (by decide) rfl (fun ls hl => ?_)
    refine lv_aload_n hx0 hb dX6_numberRead_17 rfl (lv_at hl 1 rfl) ?_
    refine gtX6_3 (k := o0) C hW ho0 flX6_31 dX6_numberRead_18 ?_
    refine lv_istore_n (lv' := [(2, .int (σ o0 3)), (1, .int (0 : Int32)), (0, .ref (b + o0))]) hx0 hb dX6_numberRead_21 rfl hl (by decide) rfl (fun ls hl => ?_)
    obtain ⟨q22, h22, h⟩ := bnd h
    try dsimp only at h
    refine bX6_numberRead_l22 C o0 ho0 σ (q := q22) ?_ FU (0 : Int32) (σ o0 3) h22 _ _ _ hW hS (lv_sub hl [2, 1, 0] rfl)
    intro H locs ls hW hS hl
    refine lv_iload_n hx0 hb dX6_numberRead_53 rfl (lv_at hl 1 rfl) ?_
    cases h
    exact w_iret C hW hS dX6_numberRead_54
  · rw [if_neg c10] at h
    refine lv_iconst (v := (-1 : Int32)) hx0 hb dX6_numberRead_13 (by decide) ?_
    cases h
    exact w_iret C hW hS dX6_numberRead_14
def fX6_nextToken_l8 (o0 : Nat) : Nat → Mem → Option (Mem)
  | 0, _ => none
  | n + 1, σ => (fX8_size (o0 + 32) σ).bind fun v16 => if v16 ≤ (σ o0 3) then (some σ) else ((fX8_byteAt (o0 + 32) (σ o0 3) σ).bind fun v30 => if v30 = (32 : Int32) then (fX6_nextToken_l8 o0 n  (up σ o0 3 ((σ o0 3) + (1 : Int32)))) else (some σ))
set_option maxRecDepth 100000 in
set_option maxHeartbeats 4000000 in
theorem bX6_nextToken_l8 {p : Program} {l : Launch} {e : Env} {s : State} {m : MethodId} {args : Array Value} {below : List Frame} {meth : Method} {c : Code} {E : Ev} {b : Nat} (C : Cx p l s m args meth c E cX6_nextToken 1 RX6 none) (o0 : Nat) (ho0 : kd o0 = 6) {Qf : State → Prop} {q : Mem} (hx : ∀ H locs ls, Wd E (LC E b) q H → va_S (La (LC E b)) s.heap H locs → lv_has ls 1 [(0, .ref (b + o0))] → W p l e { frames := 2, cells := 0, slots := 0, locals := 43 } s m args below meth c H locs 0 0 Qf (F0 m 51 ls [])) : ∀ (n : Nat) (σ : Mem), fX6_nextToken_l8 o0 n σ = some q → ∀ (H : Heap) (locs : List Loc) (ls : Array Slot), Wd E (LC E b) σ H → va_S (La (LC E b)) s.heap H locs → lv_has ls 1 [(0, .ref (b + o0))] → W p l e { frames := 2, cells := 0, slots := 0, locals := 43 } s m args below meth c H locs 0 0 Qf (F0 m 8 ls []) := by
  have hx0 := C.1
  have hb := C.2.1
  intro n
  induction n with
  | zero => intro σ h; simp [fX6_nextToken_l8] at h
  | succ n ih =>
    intro σ h H locs ls hW hS hl
    unfold fX6_nextToken_l8 at h
    refine lv_aload_n hx0 hb dX6_nextToken_8 rfl (lv_at hl 0 rfl) ?_
    refine gtX6_3 (k := o0) C hW ho0 flX6_31 dX6_nextToken_9 ?_
    refine lv_aload_n hx0 hb dX6_nextToken_12 rfl (lv_at hl 0 rfl) ?_
    refine gtX6_1 (k := o0) C hW ho0 flX6_23 dX6_nextToken_13 ?_
    obtain ⟨v16, h16, h⟩ := bnd h
    try dsimp only at h
    refine w_callV (L := (LC E b)) (k := o0 + 32) (As := []) (rest := [.int (σ o0 3)]) C hW hS (kdlt (chX6_1 ho0) (by decide)) (ccX8 (chX6_1 ho0)) kcX8 (mX8_size (o0 + 32) (chX6_1 ho0) σ v16 h16) cwX8_size cvX8_size rfl mlX6_50 ⟨by decide, by decide⟩ rfl hl.1 (Nat.le_of_ble_eq_true rfl) ⟨by decide, by decide⟩ dX6_nextToken_16 rfl (fun H locs hW hS => ?_)
    refine lv_icmp_ge (tgt := 51) hx0 hb dX6_nextToken_19 (by decide) (fun c19 => ?_) (fun c19 => ?_)
    · rw [if_pos c19] at h
      cases h
      exact hx _ _ _ hW hS (lv_sub hl [0] rfl)
    · rw [if_neg c19] at h
      refine lv_aload_n hx0 hb dX6_nextToken_22 rfl (lv_at hl 0 rfl) ?_
      refine gtX6_1 (k := o0) C hW ho0 flX6_23 dX6_nextToken_23 ?_
      refine lv_aload_n hx0 hb dX6_nextToken_26 rfl (lv_at hl 0 rfl) ?_
      refine gtX6_3 (k := o0) C hW ho0 flX6_31 dX6_nextToken_27 ?_
      obtain ⟨v30, h30, h⟩ := bnd h
      try dsimp only at h
      refine w_callV (L := (LC E b)) (k := o0 + 32) (As := [.int (σ o0 3)]) (rest := []) C hW hS (kdlt (chX6_1 ho0) (by decide)) (ccX8 (chX6_1 ho0)) kcX8 (mX8_byteAt (o0 + 32) (σ o0 3) (chX6_1 ho0) σ v30 h30) cwX8_byteAt cvX8_byteAt rfl mlX6_158 ⟨by decide, by decide⟩ rfl hl.1 (Nat.le_of_ble_eq_true rfl) ⟨by decide, by decide⟩ dX6_nextToken_30 rfl (fun H locs hW hS => ?_)
      refine lv_bipush (v := (32 : Int32)) hx0 hb dX6_nextToken_33 (by decide) ?_
      refine lv_icmp_ne (tgt := 51) hx0 hb dX6_nextToken_35 (by decide) (fun c35 => ?_) (fun c35 => ?_)
      · rw [if_neg c35] at h
        cases h
        exact hx _ _ _ hW hS (lv_sub hl [0] rfl)
      · rw [if_pos c35] at h
        refine lv_aload_n hx0 hb dX6_nextToken_38 rfl (lv_at hl 0 rfl) ?_
        refine lv_dup hx0 hb dX6_nextToken_39 rfl ?_
        refine gtX6_3 (k := o0) C hW ho0 flX6_31 dX6_nextToken_40 ?_
        refine lv_iconst (v := (1 : Int32)) hx0 hb dX6_nextToken_43 (by decide) ?_
        refine lv_iadd hx0 hb dX6_nextToken_44 ?_
        refine ptX6_3 (k := o0) C hW hS ho0 flX6_31 dX6_nextToken_45 (fun H locs hW hS => ?_)
        refine lv_goto (tgt := 8) hx0 hb dX6_nextToken_48 (by decide) ?_
        exact ih  (up σ o0 3 ((σ o0 3) + (1 : Int32))) h _ _ _ hW hS (lv_sub hl [0] rfl)
def fX6_nextToken_l95 (o0 : Nat) : Nat → Mem → Option (Mem)
  | 0, _ => none
  | n + 1, σ => (fX8_size (o0 + 32) σ).bind fun v103 => if v103 ≤ (σ o0 4) then (some σ) else (if (σ o0 2) = (3 : Int32) then (some σ) else ((fX8_byteAt (o0 + 32) (σ o0 4) σ).bind fun v125 => (fX6_kindOf v125 σ).bind fun v128 => if v128 = (σ o0 2) then (fX6_nextToken_l95 o0 n  (up σ o0 4 ((σ o0 4) + (1 : Int32)))) else (some σ)))
set_option maxRecDepth 100000 in
set_option maxHeartbeats 4000000 in
theorem bX6_nextToken_l95 {p : Program} {l : Launch} {e : Env} {s : State} {m : MethodId} {args : Array Value} {below : List Frame} {meth : Method} {c : Code} {E : Ev} {b : Nat} (C : Cx p l s m args meth c E cX6_nextToken 1 RX6 none) (o0 : Nat) (ho0 : kd o0 = 6) {Qf : State → Prop} {q : Mem} (hx : ∀ H locs ls, Wd E (LC E b) q H → va_S (La (LC E b)) s.heap H locs → lv_has ls 1 [(0, .ref (b + o0))] → W p l e { frames := 2, cells := 0, slots := 0, locals := 43 } s m args below meth c H locs 0 0 Qf (F0 m 151 ls [])) : ∀ (n : Nat) (σ : Mem), fX6_nextToken_l95 o0 n σ = some q → ∀ (H : Heap) (locs : List Loc) (ls : Array Slot), Wd E (LC E b) σ H → va_S (La (LC E b)) s.heap H locs → lv_has ls 1 [(0, .ref (b + o0))] → W p l e { frames := 2, cells := 0, slots := 0, locals := 43 } s m args below meth c H locs 0 0 Qf (F0 m 95 ls []) := by
  have hx0 := C.1
  have hb := C.2.1
  intro n
  induction n with
  | zero => intro σ h; simp [fX6_nextToken_l95] at h
  | succ n ih =>
    intro σ h H locs ls hW hS hl
    unfold fX6_nextToken_l95 at h
    refine lv_aload_n hx0 hb dX6_nextToken_95 rfl (lv_at hl 0 rfl) ?_
    refine gtX6_4 (k := o0) C hW ho0 flX6_34 dX6_nextToken_96 ?_
    refine lv_aload_n hx0 hb dX6_nextToken_99 rfl (lv_at hl 0 rfl) ?_
    refine gtX6_1 (k := o0) C hW ho0 flX6_23 dX6_nextToken_100 ?_
    obtain ⟨v103, h103, h⟩ := bnd h
    try dsimp only at h
    refine w_callV (L := (LC E b)) (k := o0 + 32) (As := []) (rest := [.int (σ o0 4)]) C hW hS (kdlt (chX6_1 ho0) (by decide)) (ccX8 (chX6_1 ho0)) kcX8 (mX8_size (o0 + 32) (chX6_1 ho0) σ v103 h103) cwX8_size cvX8_size rfl mlX6_50 ⟨by decide, by decide⟩ rfl hl.1 (Nat.le_of_ble_eq_true rfl) ⟨by decide, by decide⟩ dX6_nextToken_103 rfl (fun H locs hW hS => ?_)
    refine lv_icmp_ge (tgt := 151) hx0 hb dX6_nextToken_106 (by decide) (fun c106 => ?_) (fun c106 => ?_)
    · rw [if_pos c106] at h
      cases h
      exact hx _ _ _ hW hS (lv_sub hl [0] rfl)
    · rw [if_neg c106] at h
      refine lv_aload_n hx0 hb dX6_nextToken_109 rfl (lv_at hl 0 rfl) ?_
      refine gtX6_2 (k := o0) C hW ho0 flX6_27 dX6_nextToken_110 ?_
      refine lv_iconst (v := (3 : Int32)) hx0 hb dX6_nextToken_113 (by decide) ?_
      refine lv_icmp_eq (tgt := 151) hx0 hb dX6_nextToken_114 (by decide) (fun c114 => ?_) (fun c114 => ?_)
      · rw [if_pos c114] at h
        cases h
        exact hx _ _ _ hW hS (lv_sub hl [0] rfl)
      · rw [if_neg c114] at h
        refine lv_aload_n hx0 hb dX6_nextToken_117 rfl (lv_at hl 0 rfl) ?_
        refine gtX6_1 (k := o0) C hW ho0 flX6_23 dX6_nextToken_118 ?_
        refine lv_aload_n hx0 hb dX6_nextToken_121 rfl (lv_at hl 0 rfl) ?_
        refine gtX6_4 (k := o0) C hW ho0 flX6_34 dX6_nextToken_122 ?_
        obtain ⟨v125, h125, h⟩ := bnd h
        try dsimp only at h
        refine w_callV (L := (LC E b)) (k := o0 + 32) (As := [.int (σ o0 4)]) (rest := []) C hW hS (kdlt (chX6_1 ho0) (by decide)) (ccX8 (chX6_1 ho0)) kcX8 (mX8_byteAt (o0 + 32) (σ o0 4) (chX6_1 ho0) σ v125 h125) cwX8_byteAt cvX8_byteAt rfl mlX6_158 ⟨by decide, by decide⟩ rfl hl.1 (Nat.le_of_ble_eq_true rfl) ⟨by decide, by decide⟩ dX6_nextToken_125 rfl (fun H locs hW hS => ?_)
        obtain ⟨v128, h128, h⟩ := bnd h
        try dsimp only at h
        refine w_callS (L := (LC E b)) (As := [.int v125]) (rest := []) C hW hS (mX6_kindOf v125  σ v128 h128) cwX6_kindOf csX6_kindOf mlX6_162 ⟨by decide, by decide⟩ rfl hl.1 (Nat.le_of_ble_eq_true rfl) ⟨by decide, by decide⟩ dX6_nextToken_128 rfl (fun H locs hW hS => ?_)
        refine lv_aload_n hx0 hb dX6_nextToken_131 rfl (lv_at hl 0 rfl) ?_
        refine gtX6_2 (k := o0) C hW ho0 flX6_27 dX6_nextToken_132 ?_
        refine lv_icmp_ne (tgt := 151) hx0 hb dX6_nextToken_135 (by decide) (fun c135 => ?_) (fun c135 => ?_)
        · rw [if_neg c135] at h
          cases h
          exact hx _ _ _ hW hS (lv_sub hl [0] rfl)
        · rw [if_pos c135] at h
          refine lv_aload_n hx0 hb dX6_nextToken_138 rfl (lv_at hl 0 rfl) ?_
          refine lv_dup hx0 hb dX6_nextToken_139 rfl ?_
          refine gtX6_4 (k := o0) C hW ho0 flX6_34 dX6_nextToken_140 ?_
          refine lv_iconst (v := (1 : Int32)) hx0 hb dX6_nextToken_143 (by decide) ?_
          refine lv_iadd hx0 hb dX6_nextToken_144 ?_
          refine ptX6_4 (k := o0) C hW hS ho0 flX6_34 dX6_nextToken_145 (fun H locs hW hS => ?_)
          refine lv_goto (tgt := 95) hx0 hb dX6_nextToken_148 (by decide) ?_
          exact ih  (up σ o0 4 ((σ o0 4) + (1 : Int32))) h _ _ _ hW hS (lv_sub hl [0] rfl)
def fX6_nextToken_j51 (o0 : Nat) (σ : Mem) : Option (Mem) :=
  (fX8_byteAt (o0 + 32) (σ o0 3) σ).bind fun v60 => (fX6_kindOf v60 σ).bind fun v63 => if ((up (up σ o0 2 v63) o0 4 ((up σ o0 2 v63) o0 3)) o0 2) = (3 : Int32) then ((fX6_nextToken_l95 o0 FU (up (up (up σ o0 2 v63) o0 4 ((up σ o0 2 v63) o0 3)) o0 4 (((up (up σ o0 2 v63) o0 4 ((up σ o0 2 v63) o0 3)) o0 4) + (1 : Int32)))).bind fun q95 => if (q95 o0 2) = (2 : Int32) then ((fX6_numberRead o0 q95).bind fun v161 => some (up q95 o0 5 v161)) else (some (up q95 o0 5 (-1 : Int32)))) else ((fX6_nextToken_l95 o0 FU (up (up σ o0 2 v63) o0 4 ((up σ o0 2 v63) o0 3))).bind fun q95 => if (q95 o0 2) = (2 : Int32) then ((fX6_numberRead o0 q95).bind fun v161 => some (up q95 o0 5 v161)) else (some (up q95 o0 5 (-1 : Int32))))
set_option maxRecDepth 100000 in
set_option maxHeartbeats 4000000 in
theorem bX6_nextToken_j51 {p : Program} {l : Launch} {e : Env} {s : State} {m : MethodId} {args : Array Value} {below : List Frame} {meth : Method} {c : Code} {E : Ev} {b : Nat} (C : Cx p l s m args meth c E cX6_nextToken 1 RX6 none) (o0 : Nat) (ho0 : kd o0 = 6) {r : Mem} (σ : Mem) (h : fX6_nextToken_j51 o0 σ = some r) (H : Heap) (locs : List Loc) (ls : Array Slot) (hW : Wd E (LC E b) σ H) (hS : va_S (La (LC E b)) s.heap H locs) (hl : lv_has ls 1 [(0, .ref (b + o0))]) : W p l e { frames := 2, cells := 0, slots := 0, locals := 43 } s m args below meth c H locs 0 0 (MQ below (Qz E (LC E b) none r) args s 0 0 (La (LC E b))) (F0 m 51 ls []) := by
  have hx0 := C.1
  have hb := C.2.1
  unfold fX6_nextToken_j51 at h
  refine lv_aload_n hx0 hb dX6_nextToken_51 rfl (lv_at hl 0 rfl) ?_
  refine lv_aload_n hx0 hb dX6_nextToken_52 rfl (lv_at hl 0 rfl) ?_
  refine gtX6_1 (k := o0) C hW ho0 flX6_23 dX6_nextToken_53 ?_
  refine lv_aload_n hx0 hb dX6_nextToken_56 rfl (lv_at hl 0 rfl) ?_
  refine gtX6_3 (k := o0) C hW ho0 flX6_31 dX6_nextToken_57 ?_
  obtain ⟨v60, h60, h⟩ := bnd h
  try dsimp only at h
  refine w_callV (L := (LC E b)) (k := o0 + 32) (As := [.int (σ o0 3)]) (rest := [.ref (b + o0)]) C hW hS (kdlt (chX6_1 ho0) (by decide)) (ccX8 (chX6_1 ho0)) kcX8 (mX8_byteAt (o0 + 32) (σ o0 3) (chX6_1 ho0) σ v60 h60) cwX8_byteAt cvX8_byteAt rfl mlX6_158 ⟨by decide, by decide⟩ rfl hl.1 (Nat.le_of_ble_eq_true rfl) ⟨by decide, by decide⟩ dX6_nextToken_60 rfl (fun H locs hW hS => ?_)
  obtain ⟨v63, h63, h⟩ := bnd h
  try dsimp only at h
  refine w_callS (L := (LC E b)) (As := [.int v60]) (rest := [.ref (b + o0)]) C hW hS (mX6_kindOf v60  σ v63 h63) cwX6_kindOf csX6_kindOf mlX6_162 ⟨by decide, by decide⟩ rfl hl.1 (Nat.le_of_ble_eq_true rfl) ⟨by decide, by decide⟩ dX6_nextToken_63 rfl (fun H locs hW hS => ?_)
  refine ptX6_2 (k := o0) C hW hS ho0 flX6_27 dX6_nextToken_66 (fun H locs hW hS => ?_)
  refine lv_aload_n hx0 hb dX6_nextToken_69 rfl (lv_at hl 0 rfl) ?_
  refine lv_aload_n hx0 hb dX6_nextToken_70 rfl (lv_at hl 0 rfl) ?_
  refine gtX6_3 (k := o0) C hW ho0 flX6_31 dX6_nextToken_71 ?_
  refine ptX6_4 (k := o0) C hW hS ho0 flX6_34 dX6_nextToken_74 (fun H locs hW hS => ?_)
  refine lv_aload_n hx0 hb dX6_nextToken_77 rfl (lv_at hl 0 rfl) ?_
  refine gtX6_2 (k := o0) C hW ho0 flX6_27 dX6_nextToken_78 ?_
  refine lv_iconst (v := (3 : Int32)) hx0 hb dX6_nextToken_81 (by decide) ?_
  refine lv_icmp_ne (tgt := 95) hx0 hb dX6_nextToken_82 (by decide) (fun c82 => ?_) (fun c82 => ?_)
  · rw [if_neg c82] at h
    obtain ⟨q95, h95, h⟩ := bnd h
    try dsimp only at h
    refine bX6_nextToken_l95 C o0 ho0 (q := q95) ?_ FU  (up (up σ o0 2 v63) o0 4 ((up σ o0 2 v63) o0 3)) h95 _ _ _ hW hS (lv_sub hl [0] rfl)
    intro H locs ls hW hS hl
    refine lv_aload_n hx0 hb dX6_nextToken_151 rfl (lv_at hl 0 rfl) ?_
    refine lv_aload_n hx0 hb dX6_nextToken_152 rfl (lv_at hl 0 rfl) ?_
    refine gtX6_2 (k := o0) C hW ho0 flX6_27 dX6_nextToken_153 ?_
    refine lv_iconst (v := (2 : Int32)) hx0 hb dX6_nextToken_156 (by decide) ?_
    refine lv_icmp_ne (tgt := 167) hx0 hb dX6_nextToken_157 (by decide) (fun c157 => ?_) (fun c157 => ?_)
    · rw [if_neg c157] at h
      refine lv_iconst (v := (-1 : Int32)) hx0 hb dX6_nextToken_167 (by decide) ?_
      refine ptX6_5 (k := o0) C hW hS ho0 flX6_37 dX6_nextToken_168 (fun H locs hW hS => ?_)
      cases h
      exact w_vret C hW hS dX6_nextToken_171
    · rw [if_pos c157] at h
      refine lv_aload_n hx0 hb dX6_nextToken_160 rfl (lv_at hl 0 rfl) ?_
      obtain ⟨v161, h161, h⟩ := bnd h
      try dsimp only at h
      refine w_callV (L := (LC E b)) (k := o0) (As := []) (rest := [.ref (b + o0)]) C hW hS (kdlt ho0 (by decide)) (ccX6 ho0) kcX6 (mX6_numberRead o0 ho0 q95 v161 h161) cwX6_numberRead cvX6_numberRead rfl mlX6_165 ⟨by decide, by decide⟩ rfl hl.1 (Nat.le_of_ble_eq_true rfl) ⟨by decide, by decide⟩ dX6_nextToken_161 rfl (fun H locs hW hS => ?_)
      refine lv_goto (tgt := 168) hx0 hb dX6_nextToken_164 (by decide) ?_
      refine ptX6_5 (k := o0) C hW hS ho0 flX6_37 dX6_nextToken_168 (fun H locs hW hS => ?_)
      cases h
      exact w_vret C hW hS dX6_nextToken_171
  · rw [if_pos c82] at h
    refine lv_aload_n hx0 hb dX6_nextToken_85 rfl (lv_at hl 0 rfl) ?_
    refine lv_dup hx0 hb dX6_nextToken_86 rfl ?_
    refine gtX6_4 (k := o0) C hW ho0 flX6_34 dX6_nextToken_87 ?_
    refine lv_iconst (v := (1 : Int32)) hx0 hb dX6_nextToken_90 (by decide) ?_
    refine lv_iadd hx0 hb dX6_nextToken_91 ?_
    refine ptX6_4 (k := o0) C hW hS ho0 flX6_34 dX6_nextToken_92 (fun H locs hW hS => ?_)
    obtain ⟨q95, h95, h⟩ := bnd h
    try dsimp only at h
    refine bX6_nextToken_l95 C o0 ho0 (q := q95) ?_ FU  (up (up (up σ o0 2 v63) o0 4 ((up σ o0 2 v63) o0 3)) o0 4 (((up (up σ o0 2 v63) o0 4 ((up σ o0 2 v63) o0 3)) o0 4) + (1 : Int32))) h95 _ _ _ hW hS (lv_sub hl [0] rfl)
    intro H locs ls hW hS hl
    refine lv_aload_n hx0 hb dX6_nextToken_151 rfl (lv_at hl 0 rfl) ?_
    refine lv_aload_n hx0 hb dX6_nextToken_152 rfl (lv_at hl 0 rfl) ?_
    refine gtX6_2 (k := o0) C hW ho0 flX6_27 dX6_nextToken_153 ?_
    refine lv_iconst (v := (2 : Int32)) hx0 hb dX6_nextToken_156 (by decide) ?_
    refine lv_icmp_ne (tgt := 167) hx0 hb dX6_nextToken_157 (by decide) (fun c157 => ?_) (fun c157 => ?_)
    · rw [if_neg c157] at h
      refine lv_iconst (v := (-1 : Int32)) hx0 hb dX6_nextToken_167 (by decide) ?_
      refine ptX6_5 (k := o0) C hW hS ho0 flX6_37 dX6_nextToken_168 (fun H locs hW hS => ?_)
      cases h
      exact w_vret C hW hS dX6_nextToken_171
    · rw [if_pos c157] at h
      refine lv_aload_n hx0 hb dX6_nextToken_160 rfl (lv_at hl 0 rfl) ?_
      obtain ⟨v161, h161, h⟩ := bnd h
      try dsimp only at h
      refine w_callV (L := (LC E b)) (k := o0) (As := []) (rest := [.ref (b + o0)]) C hW hS (kdlt ho0 (by decide)) (ccX6 ho0) kcX6 (mX6_numberRead o0 ho0 q95 v161 h161) cwX6_numberRead cvX6_numberRead rfl mlX6_165 ⟨by decide, by decide⟩ rfl hl.1 (Nat.le_of_ble_eq_true rfl) ⟨by decide, by decide⟩ dX6_nextToken_161 rfl (fun H locs hW hS => ?_)
      refine lv_goto (tgt := 168) hx0 hb dX6_nextToken_164 (by decide) ?_
      refine ptX6_5 (k := o0) C hW hS ho0 flX6_37 dX6_nextToken_168 (fun H locs hW hS => ?_)
      cases h
      exact w_vret C hW hS dX6_nextToken_171
def fX6_nextToken (o0 : Nat) (σ : Mem) : Option Mem :=
  (fX6_nextToken_l8 o0 FU (up σ o0 3 (σ o0 4))).bind fun q8 => fX6_nextToken_j51 o0 q8
set_option maxRecDepth 100000 in
set_option maxHeartbeats 4000000 in
theorem mX6_nextToken {l : Launch} {E : Ev} {b : Nat} (o0 : Nat) (ho0 : kd o0 = 6) (σ : Mem) (r : Mem) (h : fX6_nextToken o0 σ = some r) : Met l yX6_nextToken (tw yX6_nextToken cX6_nextToken 1 none) { frames := 2, cells := 0, slots := 0, locals := 43 } (va_Pc [.ref (b + o0)] (Pr l E (LC E b) σ)) (Qz E (LC E b) none r) 0 0 (La (LC E b)) := by
  refine ct_of (by decide) (Nat.le_of_ble_eq_true rfl) ?_
  intro p e s m below meth c C hW hS ls hl
  have hx0 := C.1
  have hb := C.2.1
  have hl : lv_has ls 1 [(0, .ref (b + o0))] := hl
  unfold fX6_nextToken at h
  refine lv_aload_n hx0 hb dX6_nextToken_0 rfl (lv_at hl 0 rfl) ?_
  refine lv_aload_n hx0 hb dX6_nextToken_1 rfl (lv_at hl 0 rfl) ?_
  refine gtX6_4 (k := o0) C hW ho0 flX6_34 dX6_nextToken_2 ?_
  refine ptX6_3 (k := o0) C hW hS ho0 flX6_31 dX6_nextToken_5 (fun H locs hW hS => ?_)
  obtain ⟨q8, h8, h⟩ := bnd h
  try dsimp only at h
  refine bX6_nextToken_l8 C o0 ho0 (q := q8) ?_ FU  (up σ o0 3 (σ o0 4)) h8 _ _ _ hW hS (lv_sub hl [0] rfl)
  intro H locs ls hW hS hl
  exact bX6_nextToken_j51 C o0 ho0 q8 h _ _ _ hW hS (lv_sub hl [0] rfl)
def fX6_isWord_l28 (o0 : Nat) (w1 : Nat) : Nat → Int32 → Mem → Option (Int32 ⊕ (Int32))
  | 0, _, _ => none
  | n + 1, x2, σ => if (Int32.ofNat (bytL.getD w1 []).length) ≤ x2 then (some (.inr x2)) else ((fX8_byteAt (o0 + 32) ((σ o0 3) + x2) σ).bind fun v46 => if x2 < 0 ∨ (bytL.getD w1 []).length ≤ x2.toNatClampNeg then none else if v46 = ((bytL.getD w1 []).getD x2.toNatClampNeg 0) then (fX6_isWord_l28 o0 w1 n (x2 + (1 : Int32)) σ) else (some (.inl (0 : Int32))))
set_option maxRecDepth 100000 in
set_option maxHeartbeats 4000000 in
theorem bX6_isWord_l28 {p : Program} {l : Launch} {e : Env} {s : State} {m : MethodId} {args : Array Value} {below : List Frame} {meth : Method} {c : Code} {E : Ev} {b : Nat} (C : Cx p l s m args meth c E cX6_isWord 3 RX6 (some .boolean)) (o0 : Nat) (w1 : Nat) (ho0 : kd o0 = 6) (hw1 : w1 < bytL.length) (σ : Mem) (r0 : Int32) {q0 : Int32 ⊕ (Int32)} (hr : ∀ r, q0 = .inl r → r = r0) (hx : ∀ q, q0 = .inr q → ∀ H locs ls, Wd E (LC E b) σ H → va_S (La (LC E b)) s.heap H locs → lv_has ls 3 [(0, .ref (b + o0)), (1, .ref (E.2.2.1 w1)), (2, .int q)] → W p l e { frames := 4, cells := 0, slots := 0, locals := 160 } s m args below meth c H locs 0 0 (MQ below (Qz E (LC E b) (some (.int r0)) σ) args s 0 0 (La (LC E b))) (F0 m 65 ls [])) : ∀ (n : Nat) (x2 : Int32), fX6_isWord_l28 o0 w1 n x2 σ = some q0 → ∀ (H : Heap) (locs : List Loc) (ls : Array Slot), Wd E (LC E b) σ H → va_S (La (LC E b)) s.heap H locs → lv_has ls 3 [(0, .ref (b + o0)), (1, .ref (E.2.2.1 w1)), (2, .int x2)] → W p l e { frames := 4, cells := 0, slots := 0, locals := 160 } s m args below meth c H locs 0 0 (MQ below (Qz E (LC E b) (some (.int r0)) σ) args s 0 0 (La (LC E b))) (F0 m 28 ls []) := by
  have hx0 := C.1
  have hb := C.2.1
  intro n
  induction n with
  | zero => intro x2 h; simp [fX6_isWord_l28] at h
  | succ n ih =>
    intro x2 h H locs ls hW hS hl
    unfold fX6_isWord_l28 at h
    refine lv_iload_n hx0 hb dX6_isWord_28 rfl (lv_at hl 2 rfl) ?_
    refine lv_aload_n hx0 hb dX6_isWord_29 rfl (lv_at hl 1 rfl) ?_
    refine w_slen (i := w1) C hW hS hw1 mlX6_168 ⟨by decide, by decide⟩ hl.1 (Nat.le_of_ble_eq_true rfl) ⟨by decide, by decide⟩ dX6_isWord_30 (fun H locs hW hS => ?_)
    refine lv_icmp_ge (tgt := 65) hx0 hb dX6_isWord_33 (by decide) (fun c33 => ?_) (fun c33 => ?_)
    · rw [if_pos c33] at h
      cases h
      exact hx _ rfl _ _ _ hW hS (lv_sub hl [0, 1, 2] rfl)
    · rw [if_neg c33] at h
      refine lv_aload_n hx0 hb dX6_isWord_36 rfl (lv_at hl 0 rfl) ?_
      refine gtX6_1 (k := o0) C hW ho0 flX6_23 dX6_isWord_37 ?_
      refine lv_aload_n hx0 hb dX6_isWord_40 rfl (lv_at hl 0 rfl) ?_
      refine gtX6_3 (k := o0) C hW ho0 flX6_31 dX6_isWord_41 ?_
      refine lv_iload_n hx0 hb dX6_isWord_44 rfl (lv_at hl 2 rfl) ?_
      refine lv_iadd hx0 hb dX6_isWord_45 ?_
      obtain ⟨v46, h46, h⟩ := bnd h
      try dsimp only at h
      refine w_callV (L := (LC E b)) (k := o0 + 32) (As := [.int ((σ o0 3) + x2)]) (rest := []) C hW hS (kdlt (chX6_1 ho0) (by decide)) (ccX8 (chX6_1 ho0)) kcX8 (mX8_byteAt (o0 + 32) ((σ o0 3) + x2) (chX6_1 ho0) σ v46 h46) cwX8_byteAt cvX8_byteAt rfl mlX6_158 ⟨by decide, by decide⟩ rfl hl.1 (Nat.le_of_ble_eq_true rfl) ⟨by decide, by decide⟩ dX6_isWord_46 rfl (fun H locs hW hS => ?_)
      refine lv_aload_n hx0 hb dX6_isWord_49 rfl (lv_at hl 1 rfl) ?_
      refine lv_iload_n hx0 hb dX6_isWord_50 rfl (lv_at hl 2 rfl) ?_
      by_cases z51 : x2 < 0 ∨ (bytL.getD w1 []).length ≤ x2.toNatClampNeg
      · rw [if_pos z51] at h; cases h
      rw [if_neg z51] at h
      refine w_schr (i := w1) (rest := [.int v46]) C hW hS hw1 z51 mlX6_173 ⟨by decide, by decide⟩ hl.1 (Nat.le_of_ble_eq_true rfl) ⟨by decide, by decide⟩ dX6_isWord_51 (fun H locs hW hS => ?_)
      refine lv_icmp_eq (tgt := 59) hx0 hb dX6_isWord_54 (by decide) (fun c54 => ?_) (fun c54 => ?_)
      · rw [if_pos c54] at h
        refine lv_iinc (v := x2 + (1 : Int32)) (lv' := [(2, .int (x2 + (1 : Int32))), (0, .ref (b + o0)), (1, .ref (E.2.2.1 w1))]) hx0 hb dX6_isWord_59 hl (k := 2) rfl rfl (by decide) rfl (fun ls hl => ?_)
        refine lv_goto (tgt := 28) hx0 hb dX6_isWord_62 (by decide) ?_
        exact ih (x2 + (1 : Int32)) h _ _ _ hW hS (lv_sub hl [1, 2, 0] rfl)
      · rw [if_neg c54] at h
        refine lv_iconst (v := (0 : Int32)) hx0 hb dX6_isWord_57 (by decide) ?_
        cases h
        cases hr _ rfl
        exact w_zret C hW hS (Or.inl rfl) dX6_isWord_58
def fX6_isWord (o0 : Nat) (w1 : Nat) (σ : Mem) : Option Int32 :=
  if (σ o0 2) = (1 : Int32) then (if ((σ o0 4) - (σ o0 3)) = (Int32.ofNat (bytL.getD w1 []).length) then ((fX6_isWord_l28 o0 w1 FU (0 : Int32) σ).bind fun q28 => match q28 with | .inl r => some r | .inr q28 => some (1 : Int32)) else (some (0 : Int32))) else (some (0 : Int32))
set_option maxRecDepth 100000 in
set_option maxHeartbeats 4000000 in
theorem mX6_isWord {l : Launch} {E : Ev} {b : Nat} (o0 : Nat) (w1 : Nat) (ho0 : kd o0 = 6) (hw1 : w1 < bytL.length) (σ : Mem) (r : Int32) (h : fX6_isWord o0 w1 σ = some r) : Met l yX6_isWord (tw yX6_isWord cX6_isWord 3 (some .boolean)) { frames := 4, cells := 0, slots := 0, locals := 160 } (va_Pc [.ref (b + o0), .ref (E.2.2.1 w1)] (Pr l E (LC E b) σ)) (Qz E (LC E b) (some (.int r)) σ) 0 0 (La (LC E b)) := by
  refine ct_of (by decide) (Nat.le_of_ble_eq_true rfl) ?_
  intro p e s m below meth c C hW hS ls hl
  have hx0 := C.1
  have hb := C.2.1
  have hl : lv_has ls 3 [(0, .ref (b + o0)), (1, .ref (E.2.2.1 w1))] := hl
  unfold fX6_isWord at h
  refine lv_aload_n hx0 hb dX6_isWord_0 rfl (lv_at hl 0 rfl) ?_
  refine gtX6_2 (k := o0) C hW ho0 flX6_27 dX6_isWord_1 ?_
  refine lv_iconst (v := (1 : Int32)) hx0 hb dX6_isWord_4 (by decide) ?_
  refine lv_icmp_ne (tgt := 24) hx0 hb dX6_isWord_5 (by decide) (fun c5 => ?_) (fun c5 => ?_)
  · rw [if_neg c5] at h
    refine lv_iconst (v := (0 : Int32)) hx0 hb dX6_isWord_24 (by decide) ?_
    cases h
    exact w_zret C hW hS (Or.inl rfl) dX6_isWord_25
  · rw [if_pos c5] at h
    refine lv_aload_n hx0 hb dX6_isWord_8 rfl (lv_at hl 0 rfl) ?_
    refine gtX6_4 (k := o0) C hW ho0 flX6_34 dX6_isWord_9 ?_
    refine lv_aload_n hx0 hb dX6_isWord_12 rfl (lv_at hl 0 rfl) ?_
    refine gtX6_3 (k := o0) C hW ho0 flX6_31 dX6_isWord_13 ?_
    refine lv_isub hx0 hb dX6_isWord_16 ?_
    refine lv_aload_n hx0 hb dX6_isWord_17 rfl (lv_at hl 1 rfl) ?_
    refine w_slen (i := w1) C hW hS hw1 mlX6_168 ⟨by decide, by decide⟩ hl.1 (Nat.le_of_ble_eq_true rfl) ⟨by decide, by decide⟩ dX6_isWord_18 (fun H locs hW hS => ?_)
    refine lv_icmp_eq (tgt := 26) hx0 hb dX6_isWord_21 (by decide) (fun c21 => ?_) (fun c21 => ?_)
    · rw [if_pos c21] at h
      refine lv_iconst (v := (0 : Int32)) hx0 hb dX6_isWord_26 (by decide) ?_
      refine lv_istore_n (lv' := [(2, .int (0 : Int32)), (0, .ref (b + o0)), (1, .ref (E.2.2.1 w1))]) hx0 hb dX6_isWord_27 rfl hl (by decide) rfl (fun ls hl => ?_)
      obtain ⟨q28, h28, h⟩ := bnd h
      refine bX6_isWord_l28 C o0 w1 ho0 hw1 σ r (q0 := q28) ?_ ?_ FU (0 : Int32) h28 _ _ _ hW hS (lv_sub hl [1, 2, 0] rfl)
      · intro r1 hq; subst hq; (try dsimp only at h); exact Option.some.inj h
      · intro q28 hq H locs ls hW hS hl
        subst hq; try dsimp only at h
        refine lv_iconst (v := (1 : Int32)) hx0 hb dX6_isWord_65 (by decide) ?_
        cases h
        exact w_zret C hW hS (Or.inr rfl) dX6_isWord_66
    · rw [if_neg c21] at h
      refine lv_iconst (v := (0 : Int32)) hx0 hb dX6_isWord_24 (by decide) ?_
      cases h
      exact w_zret C hW hS (Or.inl rfl) dX6_isWord_25
def fX6_readQuire (o0 : Nat) (σ : Mem) : Option (Int32 × Mem) :=
  (fX10_takesQuire ((o0 + 1) + 1) σ).bind fun v7 => if v7 = 0 then (some ((0 : Int32), σ)) else ((fX6_nextToken o0 σ).bind fun v16 => (fX10_takesLeaves ((o0 + 1) + 1) (v16 o0 5) v16).bind fun v30 => if v30 = 0 then (some ((0 : Int32), v16)) else ((fX10_addQuire ((o0 + 1) + 1) (v16 o0 5) v16).bind fun v49 => (fX6_nextToken o0 v49).bind fun v53 => some ((1 : Int32), v53)))
set_option maxRecDepth 100000 in
set_option maxHeartbeats 4000000 in
theorem mX6_readQuire {l : Launch} {E : Ev} {b : Nat} (o0 : Nat) (ho0 : kd o0 = 6) (σ : Mem) (r : (Int32 × Mem)) (h : fX6_readQuire o0 σ = some r) : Met l yX6_readQuire (tw yX6_readQuire cX6_readQuire 1 (some .boolean)) { frames := 3, cells := 0, slots := 0, locals := 63 } (va_Pc [.ref (b + o0)] (Pr l E (LC E b) σ)) (Qz E (LC E b) (some (.int r.1)) r.2) 0 0 (La (LC E b)) := by
  refine ct_of (by decide) (Nat.le_of_ble_eq_true rfl) ?_
  intro p e s m below meth c C hW hS ls hl
  have hx0 := C.1
  have hb := C.2.1
  have hl : lv_has ls 1 [(0, .ref (b + o0))] := hl
  unfold fX6_readQuire at h
  refine lv_aload_n hx0 hb dX6_readQuire_0 rfl (lv_at hl 0 rfl) ?_
  refine gtX6_0 (k := o0) C hW ho0 flX6_12 dX6_readQuire_1 ?_
  refine gtX7_0 (k := o0 + 1) C hW (chX6_0 ho0) flX6_66 dX6_readQuire_4 ?_
  obtain ⟨v7, h7, h⟩ := bnd h
  try dsimp only at h
  refine w_callV (L := (LC E b)) (k := (o0 + 1) + 1) (As := []) (rest := []) C hW hS (kdlt (chX7_0 (chX6_0 ho0)) (by decide)) (ccX10 (chX7_0 (chX6_0 ho0))) kcX10 (mX10_takesQuire ((o0 + 1) + 1) (chX7_0 (chX6_0 ho0)) σ v7 h7) cwX10_takesQuire cvX10_takesQuire rfl mlX6_90 ⟨by decide, by decide⟩ rfl hl.1 (Nat.le_of_ble_eq_true rfl) ⟨by decide, by decide⟩ dX6_readQuire_7 rfl (fun H locs hW hS => ?_)
  refine lv_if_ne (tgt := 15) hx0 hb dX6_readQuire_10 (by decide) (fun c10 => ?_) (fun c10 => ?_)
  · rw [if_neg c10] at h
    refine lv_aload_n hx0 hb dX6_readQuire_15 rfl (lv_at hl 0 rfl) ?_
    obtain ⟨v16, h16, h⟩ := bnd h
    try dsimp only at h
    refine w_callV (L := (LC E b)) (k := o0) (As := []) (rest := []) C hW hS (kdlt ho0 (by decide)) (ccX6 ho0) kcX6 (mX6_nextToken o0 ho0 σ v16 h16) cwX6_nextToken cvX6_nextToken rfl mlX6_43 ⟨by decide, by decide⟩ rfl hl.1 (Nat.le_of_ble_eq_true rfl) ⟨by decide, by decide⟩ dX6_readQuire_16 rfl (fun H locs hW hS => ?_)
    refine lv_aload_n hx0 hb dX6_readQuire_19 rfl (lv_at hl 0 rfl) ?_
    refine gtX6_0 (k := o0) C hW ho0 flX6_12 dX6_readQuire_20 ?_
    refine gtX7_0 (k := o0 + 1) C hW (chX6_0 ho0) flX6_66 dX6_readQuire_23 ?_
    refine lv_aload_n hx0 hb dX6_readQuire_26 rfl (lv_at hl 0 rfl) ?_
    refine gtX6_5 (k := o0) C hW ho0 flX6_37 dX6_readQuire_27 ?_
    obtain ⟨v30, h30, h⟩ := bnd h
    try dsimp only at h
    refine w_callV (L := (LC E b)) (k := (o0 + 1) + 1) (As := [.int (v16 o0 5)]) (rest := []) C hW hS (kdlt (chX7_0 (chX6_0 ho0)) (by decide)) (ccX10 (chX7_0 (chX6_0 ho0))) kcX10 (mX10_takesLeaves ((o0 + 1) + 1) (v16 o0 5) (chX7_0 (chX6_0 ho0)) v16 v30 h30) cwX10_takesLeaves cvX10_takesLeaves rfl mlX6_93 ⟨by decide, by decide⟩ rfl hl.1 (Nat.le_of_ble_eq_true rfl) ⟨by decide, by decide⟩ dX6_readQuire_30 rfl (fun H locs hW hS => ?_)
    refine lv_if_ne (tgt := 38) hx0 hb dX6_readQuire_33 (by decide) (fun c33 => ?_) (fun c33 => ?_)
    · rw [if_neg c33] at h
      refine lv_aload_n hx0 hb dX6_readQuire_38 rfl (lv_at hl 0 rfl) ?_
      refine gtX6_0 (k := o0) C hW ho0 flX6_12 dX6_readQuire_39 ?_
      refine gtX7_0 (k := o0 + 1) C hW (chX6_0 ho0) flX6_66 dX6_readQuire_42 ?_
      refine lv_aload_n hx0 hb dX6_readQuire_45 rfl (lv_at hl 0 rfl) ?_
      refine gtX6_5 (k := o0) C hW ho0 flX6_37 dX6_readQuire_46 ?_
      obtain ⟨v49, h49, h⟩ := bnd h
      try dsimp only at h
      refine w_callV (L := (LC E b)) (k := (o0 + 1) + 1) (As := [.int (v16 o0 5)]) (rest := []) C hW hS (kdlt (chX7_0 (chX6_0 ho0)) (by decide)) (ccX10 (chX7_0 (chX6_0 ho0))) kcX10 (mX10_addQuire ((o0 + 1) + 1) (v16 o0 5) (chX7_0 (chX6_0 ho0)) v16 v49 h49) cwX10_addQuire cvX10_addQuire rfl mlX6_97 ⟨by decide, by decide⟩ rfl hl.1 (Nat.le_of_ble_eq_true rfl) ⟨by decide, by decide⟩ dX6_readQuire_49 rfl (fun H locs hW hS => ?_)
      refine lv_aload_n hx0 hb dX6_readQuire_52 rfl (lv_at hl 0 rfl) ?_
      obtain ⟨v53, h53, h⟩ := bnd h
      try dsimp only at h
      refine w_callV (L := (LC E b)) (k := o0) (As := []) (rest := []) C hW hS (kdlt ho0 (by decide)) (ccX6 ho0) kcX6 (mX6_nextToken o0 ho0 v49 v53 h53) cwX6_nextToken cvX6_nextToken rfl mlX6_43 ⟨by decide, by decide⟩ rfl hl.1 (Nat.le_of_ble_eq_true rfl) ⟨by decide, by decide⟩ dX6_readQuire_53 rfl (fun H locs hW hS => ?_)
      refine lv_iconst (v := (1 : Int32)) hx0 hb dX6_readQuire_56 (by decide) ?_
      cases h
      exact w_zret C hW hS (Or.inr rfl) dX6_readQuire_57
    · rw [if_pos c33] at h
      refine lv_iconst (v := (0 : Int32)) hx0 hb dX6_readQuire_36 (by decide) ?_
      cases h
      exact w_zret C hW hS (Or.inl rfl) dX6_readQuire_37
  · rw [if_pos c10] at h
    refine lv_iconst (v := (0 : Int32)) hx0 hb dX6_readQuire_13 (by decide) ?_
    cases h
    exact w_zret C hW hS (Or.inl rfl) dX6_readQuire_14
def fX6_readMissing_l101 (o0 : Nat) (x2 : Int32) : Nat → Int32 → Mem → Option (Int32 × Mem)
  | 0, _, _ => none
  | n + 1, x3, σ => if x2 < x3 then (some (x3, σ)) else ((fX10_setMissing ((o0 + 1) + 1) x3 (1 : Int32) σ).bind fun v115 => fX6_readMissing_l101 o0 x2 n (x3 + (1 : Int32)) v115)
set_option maxRecDepth 100000 in
set_option maxHeartbeats 4000000 in
theorem bX6_readMissing_l101 {p : Program} {l : Launch} {e : Env} {s : State} {m : MethodId} {args : Array Value} {below : List Frame} {meth : Method} {c : Code} {E : Ev} {b : Nat} (C : Cx p l s m args meth c E cX6_readMissing 4 RX6 (some .boolean)) (o0 : Nat) (x2 : Int32) (ho0 : kd o0 = 6) {Qf : State → Prop} {q : Int32 × Mem} (hx : ∀ H locs ls, Wd E (LC E b) q.2 H → va_S (La (LC E b)) s.heap H locs → lv_has ls 4 [(0, .ref (b + o0)), (2, .int x2), (3, .int q.1)] → W p l e { frames := 3, cells := 0, slots := 0, locals := 63 } s m args below meth c H locs 0 0 Qf (F0 m 124 ls [])) : ∀ (n : Nat) (x3 : Int32) (σ : Mem), fX6_readMissing_l101 o0 x2 n x3 σ = some q → ∀ (H : Heap) (locs : List Loc) (ls : Array Slot), Wd E (LC E b) σ H → va_S (La (LC E b)) s.heap H locs → lv_has ls 4 [(0, .ref (b + o0)), (2, .int x2), (3, .int x3)] → W p l e { frames := 3, cells := 0, slots := 0, locals := 63 } s m args below meth c H locs 0 0 Qf (F0 m 101 ls []) := by
  have hx0 := C.1
  have hb := C.2.1
  intro n
  induction n with
  | zero => intro x3 σ h; simp [fX6_readMissing_l101] at h
  | succ n ih =>
    intro x3 σ h H locs ls hW hS hl
    unfold fX6_readMissing_l101 at h
    refine lv_iload_n hx0 hb dX6_readMissing_101 rfl (lv_at hl 2 rfl) ?_
    refine lv_iload_n hx0 hb dX6_readMissing_102 rfl (lv_at hl 1 rfl) ?_
    refine lv_icmp_gt (tgt := 124) hx0 hb dX6_readMissing_103 (by decide) (fun c103 => ?_) (fun c103 => ?_)
    · rw [if_pos c103] at h
      cases h
      exact hx _ _ _ hW hS (lv_sub hl [0, 1, 2] rfl)
    · rw [if_neg c103] at h
      refine lv_aload_n hx0 hb dX6_readMissing_106 rfl (lv_at hl 0 rfl) ?_
      refine gtX6_0 (k := o0) C hW ho0 flX6_12 dX6_readMissing_107 ?_
      refine gtX7_0 (k := o0 + 1) C hW (chX6_0 ho0) flX6_66 dX6_readMissing_110 ?_
      refine lv_iload_n hx0 hb dX6_readMissing_113 rfl (lv_at hl 2 rfl) ?_
      refine lv_iconst (v := (1 : Int32)) hx0 hb dX6_readMissing_114 (by decide) ?_
      obtain ⟨v115, h115, h⟩ := bnd h
      try dsimp only at h
      refine w_callV (L := (LC E b)) (k := (o0 + 1) + 1) (As := [.int x3, .int (1 : Int32)]) (rest := []) C hW hS (kdlt (chX7_0 (chX6_0 ho0)) (by decide)) (ccX10 (chX7_0 (chX6_0 ho0))) kcX10 (mX10_setMissing ((o0 + 1) + 1) x3 (1 : Int32) (chX7_0 (chX6_0 ho0)) σ v115 h115) cwX10_setMissing cvX10_setMissing rfl mlX6_107 ⟨by decide, by decide⟩ rfl hl.1 (Nat.le_of_ble_eq_true rfl) ⟨by decide, by decide⟩ dX6_readMissing_115 rfl (fun H locs hW hS => ?_)
      refine lv_iinc (v := x3 + (1 : Int32)) (lv' := [(3, .int (x3 + (1 : Int32))), (0, .ref (b + o0)), (2, .int x2)]) hx0 hb dX6_readMissing_118 hl (k := 2) rfl rfl (by decide) rfl (fun ls hl => ?_)
      refine lv_goto (tgt := 101) hx0 hb dX6_readMissing_121 (by decide) ?_
      exact ih (x3 + (1 : Int32)) v115 h _ _ _ hW hS (lv_sub hl [1, 2, 0] rfl)
def fX6_readMissing_j99 (o0 : Nat) (x1 : Int32) (x2 : Int32) (σ : Mem) : Option ((Int32 × Mem)) :=
  (fX6_readMissing_l101 o0 x2 FU x1 σ).bind fun q101 => some ((1 : Int32), q101.2)
set_option maxRecDepth 100000 in
set_option maxHeartbeats 4000000 in
theorem bX6_readMissing_j99 {p : Program} {l : Launch} {e : Env} {s : State} {m : MethodId} {args : Array Value} {below : List Frame} {meth : Method} {c : Code} {E : Ev} {b : Nat} (C : Cx p l s m args meth c E cX6_readMissing 4 RX6 (some .boolean)) (o0 : Nat) (x1 : Int32) (x2 : Int32) (ho0 : kd o0 = 6) {r : (Int32 × Mem)} (σ : Mem) (h : fX6_readMissing_j99 o0 x1 x2 σ = some r) (H : Heap) (locs : List Loc) (ls : Array Slot) (hW : Wd E (LC E b) σ H) (hS : va_S (La (LC E b)) s.heap H locs) (hl : lv_has ls 4 [(0, .ref (b + o0)), (1, .int x1), (2, .int x2)]) : W p l e { frames := 3, cells := 0, slots := 0, locals := 63 } s m args below meth c H locs 0 0 (MQ below (Qz E (LC E b) (some (.int r.1)) r.2) args s 0 0 (La (LC E b))) (F0 m 99 ls []) := by
  have hx0 := C.1
  have hb := C.2.1
  unfold fX6_readMissing_j99 at h
  refine lv_iload_n hx0 hb dX6_readMissing_99 rfl (lv_at hl 1 rfl) ?_
  refine lv_istore_n (lv' := [(3, .int x1), (0, .ref (b + o0)), (1, .int x1), (2, .int x2)]) hx0 hb dX6_readMissing_100 rfl hl (by decide) rfl (fun ls hl => ?_)
  obtain ⟨q101, h101, h⟩ := bnd h
  try dsimp only at h
  refine bX6_readMissing_l101 C o0 x2 ho0 (q := q101) ?_ FU x1 σ h101 _ _ _ hW hS (lv_sub hl [1, 3, 0] rfl)
  intro H locs ls hW hS hl
  refine lv_iconst (v := (1 : Int32)) hx0 hb dX6_readMissing_124 (by decide) ?_
  cases h
  exact w_zret C hW hS (Or.inr rfl) dX6_readMissing_125
def fX6_readMissing (o0 : Nat) (σ : Mem) : Option (Int32 × Mem) :=
  (fX6_nextToken o0 σ).bind fun v1 => (fX10_hasLeaf ((o0 + 1) + 1) (v1 o0 5) v1).bind fun v17 => if v17 = 0 then (some ((0 : Int32), v1)) else ((fX10_hasSlips ((o0 + 1) + 1) (v1 o0 5) (v1 o0 5) v1).bind fun v32 => if v32 = 0 then ((fX6_nextToken o0 v1).bind fun v41 => if (v41 o0 2) = (2 : Int32) then ((fX10_hasLeaf ((o0 + 1) + 1) (v41 o0 5) v41).bind fun v67 => if v67 = 0 then (some ((0 : Int32), v41)) else (if (v41 o0 5) < (v1 o0 5) then (some ((0 : Int32), v41)) else ((fX10_hasSlips ((o0 + 1) + 1) (v1 o0 5) (v41 o0 5) v41).bind fun v87 => if v87 = 0 then ((fX6_nextToken o0 v41).bind fun v96 => fX6_readMissing_j99 o0 (v1 o0 5) (v41 o0 5) v96) else (some ((0 : Int32), v41))))) else (fX6_readMissing_j99 o0 (v1 o0 5) (v1 o0 5) v41)) else (some ((0 : Int32), v1)))
set_option maxRecDepth 100000 in
set_option maxHeartbeats 4000000 in
theorem mX6_readMissing {l : Launch} {E : Ev} {b : Nat} (o0 : Nat) (ho0 : kd o0 = 6) (σ : Mem) (r : (Int32 × Mem)) (h : fX6_readMissing o0 σ = some r) : Met l yX6_readMissing (tw yX6_readMissing cX6_readMissing 4 (some .boolean)) { frames := 3, cells := 0, slots := 0, locals := 63 } (va_Pc [.ref (b + o0)] (Pr l E (LC E b) σ)) (Qz E (LC E b) (some (.int r.1)) r.2) 0 0 (La (LC E b)) := by
  refine ct_of (by decide) (Nat.le_of_ble_eq_true rfl) ?_
  intro p e s m below meth c C hW hS ls hl
  have hx0 := C.1
  have hb := C.2.1
  have hl : lv_has ls 4 [(0, .ref (b + o0))] := hl
  unfold fX6_readMissing at h
  refine lv_aload_n hx0 hb dX6_readMissing_0 rfl (lv_at hl 0 rfl) ?_
  obtain ⟨v1, h1, h⟩ := bnd h
  try dsimp only at h
  refine w_callV (L := (LC E b)) (k := o0) (As := []) (rest := []) C hW hS (kdlt ho0 (by decide)) (ccX6 ho0) kcX6 (mX6_nextToken o0 ho0 σ v1 h1) cwX6_nextToken cvX6_nextToken rfl mlX6_43 ⟨by decide, by decide⟩ rfl hl.1 (Nat.le_of_ble_eq_true rfl) ⟨by decide, by decide⟩ dX6_readMissing_1 rfl (fun H locs hW hS => ?_)
  refine lv_aload_n hx0 hb dX6_readMissing_4 rfl (lv_at hl 0 rfl) ?_
  refine gtX6_5 (k := o0) C hW ho0 flX6_37 dX6_readMissing_5 ?_
  refine lv_istore_n (lv' := [(1, .int (v1 o0 5)), (0, .ref (b + o0))]) hx0 hb dX6_readMissing_8 rfl hl (by decide) rfl (fun ls hl => ?_)
  refine lv_aload_n hx0 hb dX6_readMissing_9 rfl (lv_at hl 1 rfl) ?_
  refine gtX6_0 (k := o0) C hW ho0 flX6_12 dX6_readMissing_10 ?_
  refine gtX7_0 (k := o0 + 1) C hW (chX6_0 ho0) flX6_66 dX6_readMissing_13 ?_
  refine lv_iload_n hx0 hb dX6_readMissing_16 rfl (lv_at hl 0 rfl) ?_
  obtain ⟨v17, h17, h⟩ := bnd h
  try dsimp only at h
  refine w_callV (L := (LC E b)) (k := (o0 + 1) + 1) (As := [.int (v1 o0 5)]) (rest := []) C hW hS (kdlt (chX7_0 (chX6_0 ho0)) (by decide)) (ccX10 (chX7_0 (chX6_0 ho0))) kcX10 (mX10_hasLeaf ((o0 + 1) + 1) (v1 o0 5) (chX7_0 (chX6_0 ho0)) v1 v17 h17) cwX10_hasLeaf cvX10_hasLeaf rfl mlX6_100 ⟨by decide, by decide⟩ rfl hl.1 (Nat.le_of_ble_eq_true rfl) ⟨by decide, by decide⟩ dX6_readMissing_17 rfl (fun H locs hW hS => ?_)
  refine lv_if_eq (tgt := 38) hx0 hb dX6_readMissing_20 (by decide) (fun c20 => ?_) (fun c20 => ?_)
  · rw [if_pos c20] at h
    refine lv_iconst (v := (0 : Int32)) hx0 hb dX6_readMissing_38 (by decide) ?_
    cases h
    exact w_zret C hW hS (Or.inl rfl) dX6_readMissing_39
  · rw [if_neg c20] at h
    refine lv_aload_n hx0 hb dX6_readMissing_23 rfl (lv_at hl 1 rfl) ?_
    refine gtX6_0 (k := o0) C hW ho0 flX6_12 dX6_readMissing_24 ?_
    refine gtX7_0 (k := o0 + 1) C hW (chX6_0 ho0) flX6_66 dX6_readMissing_27 ?_
    refine lv_iload_n hx0 hb dX6_readMissing_30 rfl (lv_at hl 0 rfl) ?_
    refine lv_iload_n hx0 hb dX6_readMissing_31 rfl (lv_at hl 0 rfl) ?_
    obtain ⟨v32, h32, h⟩ := bnd h
    try dsimp only at h
    refine w_callV (L := (LC E b)) (k := (o0 + 1) + 1) (As := [.int (v1 o0 5), .int (v1 o0 5)]) (rest := []) C hW hS (kdlt (chX7_0 (chX6_0 ho0)) (by decide)) (ccX10 (chX7_0 (chX6_0 ho0))) kcX10 (mX10_hasSlips ((o0 + 1) + 1) (v1 o0 5) (v1 o0 5) (chX7_0 (chX6_0 ho0)) v1 v32 h32) cwX10_hasSlips cvX10_hasSlips rfl mlX6_103 ⟨by decide, by decide⟩ rfl hl.1 (Nat.le_of_ble_eq_true rfl) ⟨by decide, by decide⟩ dX6_readMissing_32 rfl (fun H locs hW hS => ?_)
    refine lv_if_eq (tgt := 40) hx0 hb dX6_readMissing_35 (by decide) (fun c35 => ?_) (fun c35 => ?_)
    · rw [if_pos c35] at h
      refine lv_aload_n hx0 hb dX6_readMissing_40 rfl (lv_at hl 1 rfl) ?_
      obtain ⟨v41, h41, h⟩ := bnd h
      try dsimp only at h
      refine w_callV (L := (LC E b)) (k := o0) (As := []) (rest := []) C hW hS (kdlt ho0 (by decide)) (ccX6 ho0) kcX6 (mX6_nextToken o0 ho0 v1 v41 h41) cwX6_nextToken cvX6_nextToken rfl mlX6_43 ⟨by decide, by decide⟩ rfl hl.1 (Nat.le_of_ble_eq_true rfl) ⟨by decide, by decide⟩ dX6_readMissing_41 rfl (fun H locs hW hS => ?_)
      refine lv_iload_n hx0 hb dX6_readMissing_44 rfl (lv_at hl 0 rfl) ?_
      refine lv_istore_n (lv' := [(2, .int (v1 o0 5)), (1, .int (v1 o0 5)), (0, .ref (b + o0))]) hx0 hb dX6_readMissing_45 rfl hl (by decide) rfl (fun ls hl => ?_)
      refine lv_aload_n hx0 hb dX6_readMissing_46 rfl (lv_at hl 2 rfl) ?_
      refine gtX6_2 (k := o0) C hW ho0 flX6_27 dX6_readMissing_47 ?_
      refine lv_iconst (v := (2 : Int32)) hx0 hb dX6_readMissing_50 (by decide) ?_
      refine lv_icmp_ne (tgt := 99) hx0 hb dX6_readMissing_51 (by decide) (fun c51 => ?_) (fun c51 => ?_)
      · rw [if_neg c51] at h
        exact bX6_readMissing_j99 C o0 (v1 o0 5) (v1 o0 5) ho0 v41 h _ _ _ hW hS (lv_sub hl [2, 1, 0] rfl)
      · rw [if_pos c51] at h
        refine lv_aload_n hx0 hb dX6_readMissing_54 rfl (lv_at hl 2 rfl) ?_
        refine gtX6_5 (k := o0) C hW ho0 flX6_37 dX6_readMissing_55 ?_
        refine lv_istore_n (lv' := [(2, .int (v41 o0 5)), (1, .int (v1 o0 5)), (0, .ref (b + o0))]) hx0 hb dX6_readMissing_58 rfl hl (by decide) rfl (fun ls hl => ?_)
        refine lv_aload_n hx0 hb dX6_readMissing_59 rfl (lv_at hl 2 rfl) ?_
        refine gtX6_0 (k := o0) C hW ho0 flX6_12 dX6_readMissing_60 ?_
        refine gtX7_0 (k := o0 + 1) C hW (chX6_0 ho0) flX6_66 dX6_readMissing_63 ?_
        refine lv_iload_n hx0 hb dX6_readMissing_66 rfl (lv_at hl 0 rfl) ?_
        obtain ⟨v67, h67, h⟩ := bnd h
        try dsimp only at h
        refine w_callV (L := (LC E b)) (k := (o0 + 1) + 1) (As := [.int (v41 o0 5)]) (rest := []) C hW hS (kdlt (chX7_0 (chX6_0 ho0)) (by decide)) (ccX10 (chX7_0 (chX6_0 ho0))) kcX10 (mX10_hasLeaf ((o0 + 1) + 1) (v41 o0 5) (chX7_0 (chX6_0 ho0)) v41 v67 h67) cwX10_hasLeaf cvX10_hasLeaf rfl mlX6_100 ⟨by decide, by decide⟩ rfl hl.1 (Nat.le_of_ble_eq_true rfl) ⟨by decide, by decide⟩ dX6_readMissing_67 rfl (fun H locs hW hS => ?_)
        refine lv_if_eq (tgt := 93) hx0 hb dX6_readMissing_70 (by decide) (fun c70 => ?_) (fun c70 => ?_)
        · rw [if_pos c70] at h
          refine lv_iconst (v := (0 : Int32)) hx0 hb dX6_readMissing_93 (by decide) ?_
          cases h
          exact w_zret C hW hS (Or.inl rfl) dX6_readMissing_94
        · rw [if_neg c70] at h
          refine lv_iload_n hx0 hb dX6_readMissing_73 rfl (lv_at hl 0 rfl) ?_
          refine lv_iload_n hx0 hb dX6_readMissing_74 rfl (lv_at hl 1 rfl) ?_
          refine lv_icmp_lt (tgt := 93) hx0 hb dX6_readMissing_75 (by decide) (fun c75 => ?_) (fun c75 => ?_)
          · rw [if_pos c75] at h
            refine lv_iconst (v := (0 : Int32)) hx0 hb dX6_readMissing_93 (by decide) ?_
            cases h
            exact w_zret C hW hS (Or.inl rfl) dX6_readMissing_94
          · rw [if_neg c75] at h
            refine lv_aload_n hx0 hb dX6_readMissing_78 rfl (lv_at hl 2 rfl) ?_
            refine gtX6_0 (k := o0) C hW ho0 flX6_12 dX6_readMissing_79 ?_
            refine gtX7_0 (k := o0 + 1) C hW (chX6_0 ho0) flX6_66 dX6_readMissing_82 ?_
            refine lv_iload_n hx0 hb dX6_readMissing_85 rfl (lv_at hl 1 rfl) ?_
            refine lv_iload_n hx0 hb dX6_readMissing_86 rfl (lv_at hl 0 rfl) ?_
            obtain ⟨v87, h87, h⟩ := bnd h
            try dsimp only at h
            refine w_callV (L := (LC E b)) (k := (o0 + 1) + 1) (As := [.int (v1 o0 5), .int (v41 o0 5)]) (rest := []) C hW hS (kdlt (chX7_0 (chX6_0 ho0)) (by decide)) (ccX10 (chX7_0 (chX6_0 ho0))) kcX10 (mX10_hasSlips ((o0 + 1) + 1) (v1 o0 5) (v41 o0 5) (chX7_0 (chX6_0 ho0)) v41 v87 h87) cwX10_hasSlips cvX10_hasSlips rfl mlX6_103 ⟨by decide, by decide⟩ rfl hl.1 (Nat.le_of_ble_eq_true rfl) ⟨by decide, by decide⟩ dX6_readMissing_87 rfl (fun H locs hW hS => ?_)
            refine lv_if_eq (tgt := 95) hx0 hb dX6_readMissing_90 (by decide) (fun c90 => ?_) (fun c90 => ?_)
            · rw [if_pos c90] at h
              refine lv_aload_n hx0 hb dX6_readMissing_95 rfl (lv_at hl 2 rfl) ?_
              obtain ⟨v96, h96, h⟩ := bnd h
              try dsimp only at h
              refine w_callV (L := (LC E b)) (k := o0) (As := []) (rest := []) C hW hS (kdlt ho0 (by decide)) (ccX6 ho0) kcX6 (mX6_nextToken o0 ho0 v41 v96 h96) cwX6_nextToken cvX6_nextToken rfl mlX6_43 ⟨by decide, by decide⟩ rfl hl.1 (Nat.le_of_ble_eq_true rfl) ⟨by decide, by decide⟩ dX6_readMissing_96 rfl (fun H locs hW hS => ?_)
              exact bX6_readMissing_j99 C o0 (v1 o0 5) (v41 o0 5) ho0 v96 h _ _ _ hW hS (lv_sub hl [2, 1, 0] rfl)
            · rw [if_neg c90] at h
              refine lv_iconst (v := (0 : Int32)) hx0 hb dX6_readMissing_93 (by decide) ?_
              cases h
              exact w_zret C hW hS (Or.inl rfl) dX6_readMissing_94
    · rw [if_neg c35] at h
      refine lv_iconst (v := (0 : Int32)) hx0 hb dX6_readMissing_38 (by decide) ?_
      cases h
      exact w_zret C hW hS (Or.inl rfl) dX6_readMissing_39
def fX6_sideNamed (o0 : Nat) (σ : Mem) : Option Int32 :=
  (fX6_isWord o0 3 σ).bind fun v3 => if v3 = 0 then ((fX6_isWord o0 4 σ).bind fun v14 => if v14 = 0 then (some (-1 : Int32)) else (some (1 : Int32))) else (some (0 : Int32))
set_option maxRecDepth 100000 in
set_option maxHeartbeats 4000000 in
theorem mX6_sideNamed {l : Launch} {E : Ev} {b : Nat} (o0 : Nat) (ho0 : kd o0 = 6) (σ : Mem) (r : Int32) (h : fX6_sideNamed o0 σ = some r) : Met l yX6_sideNamed (tw yX6_sideNamed cX6_sideNamed 1 (some .int)) { frames := 5, cells := 0, slots := 0, locals := 182 } (va_Pc [.ref (b + o0)] (Pr l E (LC E b) σ)) (Qz E (LC E b) (some (.int r)) σ) 0 0 (La (LC E b)) := by
  refine ct_of (by decide) (Nat.le_of_ble_eq_true rfl) ?_
  intro p e s m below meth c C hW hS ls hl
  have hx0 := C.1
  have hb := C.2.1
  have hl : lv_has ls 1 [(0, .ref (b + o0))] := hl
  unfold fX6_sideNamed at h
  refine lv_aload_n hx0 hb dX6_sideNamed_0 rfl (lv_at hl 0 rfl) ?_
  refine w_ldcS C 3 rfl dX6_sideNamed_1 ?_
  obtain ⟨v3, h3, h⟩ := bnd h
  try dsimp only at h
  refine w_callV (L := (LC E b)) (k := o0) (As := [.ref (E.2.2.1 3)]) (rest := []) C hW hS (kdlt ho0 (by decide)) (ccX6 ho0) kcX6 (mX6_isWord o0 3 ho0 (by decide : 3 < bytL.length) σ v3 h3) cwX6_isWord cvX6_isWord rfl mlX6_59 ⟨by decide, by decide⟩ rfl hl.1 (Nat.le_of_ble_eq_true rfl) ⟨by decide, by decide⟩ dX6_sideNamed_3 rfl (fun H locs hW hS => ?_)
  refine lv_if_eq (tgt := 11) hx0 hb dX6_sideNamed_6 (by decide) (fun c6 => ?_) (fun c6 => ?_)
  · rw [if_pos c6] at h
    refine lv_aload_n hx0 hb dX6_sideNamed_11 rfl (lv_at hl 0 rfl) ?_
    refine w_ldcS C 4 rfl dX6_sideNamed_12 ?_
    obtain ⟨v14, h14, h⟩ := bnd h
    try dsimp only at h
    refine w_callV (L := (LC E b)) (k := o0) (As := [.ref (E.2.2.1 4)]) (rest := []) C hW hS (kdlt ho0 (by decide)) (ccX6 ho0) kcX6 (mX6_isWord o0 4 ho0 (by decide : 4 < bytL.length) σ v14 h14) cwX6_isWord cvX6_isWord rfl mlX6_59 ⟨by decide, by decide⟩ rfl hl.1 (Nat.le_of_ble_eq_true rfl) ⟨by decide, by decide⟩ dX6_sideNamed_14 rfl (fun H locs hW hS => ?_)
    refine lv_if_eq (tgt := 24) hx0 hb dX6_sideNamed_17 (by decide) (fun c17 => ?_) (fun c17 => ?_)
    · rw [if_pos c17] at h
      refine lv_iconst (v := (-1 : Int32)) hx0 hb dX6_sideNamed_24 (by decide) ?_
      cases h
      exact w_iret C hW hS dX6_sideNamed_25
    · rw [if_neg c17] at h
      refine lv_iconst (v := (1 : Int32)) hx0 hb dX6_sideNamed_20 (by decide) ?_
      refine lv_goto (tgt := 25) hx0 hb dX6_sideNamed_21 (by decide) ?_
      cases h
      exact w_iret C hW hS dX6_sideNamed_25
  · rw [if_neg c6] at h
    refine lv_iconst (v := (0 : Int32)) hx0 hb dX6_sideNamed_9 (by decide) ?_
    cases h
    exact w_iret C hW hS dX6_sideNamed_10
def fX11_isSlipSize (x0 : Int32) (σ : Mem) : Option Int32 :=
  if x0 < (1 : Int32) then (some (0 : Int32)) else (if (2 : Int32) < x0 then (some (0 : Int32)) else (some (1 : Int32)))
set_option maxRecDepth 100000 in
set_option maxHeartbeats 4000000 in
theorem mX11_isSlipSize {l : Launch} {E : Ev} {b : Nat} (x0 : Int32) (σ : Mem) (r : Int32) (h : fX11_isSlipSize x0 σ = some r) : Met l yX11_isSlipSize (tw yX11_isSlipSize cX11_isSlipSize 1 (some .boolean)) { frames := 0, cells := 0, slots := 0, locals := 0 } (va_Pc [.int x0] (Pr l E (LC E b) σ)) (Qz E (LC E b) (some (.int r)) σ) 0 0 (La (LC E b)) := by
  refine ct_of (by decide) (Nat.le_of_ble_eq_true rfl) ?_
  intro p e s m below meth c C hW hS ls hl
  have hx0 := C.1
  have hb := C.2.1
  have hl : lv_has ls 1 [(0, .int x0)] := hl
  unfold fX11_isSlipSize at h
  refine lv_iload_n hx0 hb dX11_isSlipSize_0 rfl (lv_at hl 0 rfl) ?_
  refine lv_iconst (v := (1 : Int32)) hx0 hb dX11_isSlipSize_1 (by decide) ?_
  refine lv_icmp_lt (tgt := 14) hx0 hb dX11_isSlipSize_2 (by decide) (fun c2 => ?_) (fun c2 => ?_)
  · rw [if_pos c2] at h
    refine lv_iconst (v := (0 : Int32)) hx0 hb dX11_isSlipSize_14 (by decide) ?_
    cases h
    exact w_zret C hW hS (Or.inl rfl) dX11_isSlipSize_15
  · rw [if_neg c2] at h
    refine lv_iload_n hx0 hb dX11_isSlipSize_5 rfl (lv_at hl 0 rfl) ?_
    refine lv_iconst (v := (2 : Int32)) hx0 hb dX11_isSlipSize_6 (by decide) ?_
    refine lv_icmp_gt (tgt := 14) hx0 hb dX11_isSlipSize_7 (by decide) (fun c7 => ?_) (fun c7 => ?_)
    · rw [if_pos c7] at h
      refine lv_iconst (v := (0 : Int32)) hx0 hb dX11_isSlipSize_14 (by decide) ?_
      cases h
      exact w_zret C hW hS (Or.inl rfl) dX11_isSlipSize_15
    · rw [if_neg c7] at h
      refine lv_iconst (v := (1 : Int32)) hx0 hb dX11_isSlipSize_10 (by decide) ?_
      refine lv_goto (tgt := 15) hx0 hb dX11_isSlipSize_11 (by decide) ?_
      cases h
      exact w_zret C hW hS (Or.inr rfl) dX11_isSlipSize_15
def fX6_readSlip (o0 : Nat) (σ : Mem) : Option (Int32 × Mem) :=
  (fX10_takesSlip ((o0 + 1) + 1) σ).bind fun v7 => if v7 = 0 then (some ((0 : Int32), σ)) else ((fX6_nextToken o0 σ).bind fun v16 => (fX10_isPresent ((o0 + 1) + 1) (v16 o0 5) v16).bind fun v32 => if v32 = 0 then (some ((0 : Int32), v16)) else ((fX6_nextToken o0 v16).bind fun v41 => (fX6_sideNamed o0 v41).bind fun v45 => if v45 = (-1 : Int32) then (some ((0 : Int32), v41)) else ((fX6_nextToken o0 v41).bind fun v57 => (fX11_isSlipSize (v57 o0 5) v57).bind fun v64 => if v64 = 0 then (some ((0 : Int32), v57)) else ((fX10_addSlip ((o0 + 1) + 1) (v16 o0 5) v45 (v57 o0 5) v57).bind fun v85 => (fX6_nextToken o0 v85).bind fun v89 => some ((1 : Int32), v89)))))
set_option maxRecDepth 100000 in
set_option maxHeartbeats 4000000 in
theorem mX6_readSlip {l : Launch} {E : Ev} {b : Nat} (o0 : Nat) (ho0 : kd o0 = 6) (σ : Mem) (r : (Int32 × Mem)) (h : fX6_readSlip o0 σ = some r) : Met l yX6_readSlip (tw yX6_readSlip cX6_readSlip 3 (some .boolean)) { frames := 6, cells := 0, slots := 0, locals := 202 } (va_Pc [.ref (b + o0)] (Pr l E (LC E b) σ)) (Qz E (LC E b) (some (.int r.1)) r.2) 0 0 (La (LC E b)) := by
  refine ct_of (by decide) (Nat.le_of_ble_eq_true rfl) ?_
  intro p e s m below meth c C hW hS ls hl
  have hx0 := C.1
  have hb := C.2.1
  have hl : lv_has ls 3 [(0, .ref (b + o0))] := hl
  unfold fX6_readSlip at h
  refine lv_aload_n hx0 hb dX6_readSlip_0 rfl (lv_at hl 0 rfl) ?_
  refine gtX6_0 (k := o0) C hW ho0 flX6_12 dX6_readSlip_1 ?_
  refine gtX7_0 (k := o0 + 1) C hW (chX6_0 ho0) flX6_66 dX6_readSlip_4 ?_
  obtain ⟨v7, h7, h⟩ := bnd h
  try dsimp only at h
  refine w_callV (L := (LC E b)) (k := (o0 + 1) + 1) (As := []) (rest := []) C hW hS (kdlt (chX7_0 (chX6_0 ho0)) (by decide)) (ccX10 (chX7_0 (chX6_0 ho0))) kcX10 (mX10_takesSlip ((o0 + 1) + 1) (chX7_0 (chX6_0 ho0)) σ v7 h7) cwX10_takesSlip cvX10_takesSlip rfl mlX6_111 ⟨by decide, by decide⟩ rfl hl.1 (Nat.le_of_ble_eq_true rfl) ⟨by decide, by decide⟩ dX6_readSlip_7 rfl (fun H locs hW hS => ?_)
  refine lv_if_ne (tgt := 15) hx0 hb dX6_readSlip_10 (by decide) (fun c10 => ?_) (fun c10 => ?_)
  · rw [if_neg c10] at h
    refine lv_aload_n hx0 hb dX6_readSlip_15 rfl (lv_at hl 0 rfl) ?_
    obtain ⟨v16, h16, h⟩ := bnd h
    try dsimp only at h
    refine w_callV (L := (LC E b)) (k := o0) (As := []) (rest := []) C hW hS (kdlt ho0 (by decide)) (ccX6 ho0) kcX6 (mX6_nextToken o0 ho0 σ v16 h16) cwX6_nextToken cvX6_nextToken rfl mlX6_43 ⟨by decide, by decide⟩ rfl hl.1 (Nat.le_of_ble_eq_true rfl) ⟨by decide, by decide⟩ dX6_readSlip_16 rfl (fun H locs hW hS => ?_)
    refine lv_aload_n hx0 hb dX6_readSlip_19 rfl (lv_at hl 0 rfl) ?_
    refine gtX6_5 (k := o0) C hW ho0 flX6_37 dX6_readSlip_20 ?_
    refine lv_istore_n (lv' := [(1, .int (v16 o0 5)), (0, .ref (b + o0))]) hx0 hb dX6_readSlip_23 rfl hl (by decide) rfl (fun ls hl => ?_)
    refine lv_aload_n hx0 hb dX6_readSlip_24 rfl (lv_at hl 1 rfl) ?_
    refine gtX6_0 (k := o0) C hW ho0 flX6_12 dX6_readSlip_25 ?_
    refine gtX7_0 (k := o0 + 1) C hW (chX6_0 ho0) flX6_66 dX6_readSlip_28 ?_
    refine lv_iload_n hx0 hb dX6_readSlip_31 rfl (lv_at hl 0 rfl) ?_
    obtain ⟨v32, h32, h⟩ := bnd h
    try dsimp only at h
    refine w_callV (L := (LC E b)) (k := (o0 + 1) + 1) (As := [.int (v16 o0 5)]) (rest := []) C hW hS (kdlt (chX7_0 (chX6_0 ho0)) (by decide)) (ccX10 (chX7_0 (chX6_0 ho0))) kcX10 (mX10_isPresent ((o0 + 1) + 1) (v16 o0 5) (chX7_0 (chX6_0 ho0)) v16 v32 h32) cwX10_isPresent cvX10_isPresent rfl mlX6_114 ⟨by decide, by decide⟩ rfl hl.1 (Nat.le_of_ble_eq_true rfl) ⟨by decide, by decide⟩ dX6_readSlip_32 rfl (fun H locs hW hS => ?_)
    refine lv_if_ne (tgt := 40) hx0 hb dX6_readSlip_35 (by decide) (fun c35 => ?_) (fun c35 => ?_)
    · rw [if_neg c35] at h
      refine lv_aload_n hx0 hb dX6_readSlip_40 rfl (lv_at hl 1 rfl) ?_
      obtain ⟨v41, h41, h⟩ := bnd h
      try dsimp only at h
      refine w_callV (L := (LC E b)) (k := o0) (As := []) (rest := []) C hW hS (kdlt ho0 (by decide)) (ccX6 ho0) kcX6 (mX6_nextToken o0 ho0 v16 v41 h41) cwX6_nextToken cvX6_nextToken rfl mlX6_43 ⟨by decide, by decide⟩ rfl hl.1 (Nat.le_of_ble_eq_true rfl) ⟨by decide, by decide⟩ dX6_readSlip_41 rfl (fun H locs hW hS => ?_)
      refine lv_aload_n hx0 hb dX6_readSlip_44 rfl (lv_at hl 1 rfl) ?_
      obtain ⟨v45, h45, h⟩ := bnd h
      try dsimp only at h
      refine w_callV (L := (LC E b)) (k := o0) (As := []) (rest := []) C hW hS (kdlt ho0 (by decide)) (ccX6 ho0) kcX6 (mX6_sideNamed o0 ho0 v41 v45 h45) cwX6_sideNamed cvX6_sideNamed rfl mlX6_117 ⟨by decide, by decide⟩ rfl hl.1 (Nat.le_of_ble_eq_true rfl) ⟨by decide, by decide⟩ dX6_readSlip_45 rfl (fun H locs hW hS => ?_)
      refine lv_istore_n (lv' := [(2, .int v45), (1, .int (v16 o0 5)), (0, .ref (b + o0))]) hx0 hb dX6_readSlip_48 rfl hl (by decide) rfl (fun ls hl => ?_)
      refine lv_iload_n hx0 hb dX6_readSlip_49 rfl (lv_at hl 0 rfl) ?_
      refine lv_iconst (v := (-1 : Int32)) hx0 hb dX6_readSlip_50 (by decide) ?_
      refine lv_icmp_ne (tgt := 56) hx0 hb dX6_readSlip_51 (by decide) (fun c51 => ?_) (fun c51 => ?_)
      · rw [if_neg c51] at h
        refine lv_aload_n hx0 hb dX6_readSlip_56 rfl (lv_at hl 2 rfl) ?_
        obtain ⟨v57, h57, h⟩ := bnd h
        try dsimp only at h
        refine w_callV (L := (LC E b)) (k := o0) (As := []) (rest := []) C hW hS (kdlt ho0 (by decide)) (ccX6 ho0) kcX6 (mX6_nextToken o0 ho0 v41 v57 h57) cwX6_nextToken cvX6_nextToken rfl mlX6_43 ⟨by decide, by decide⟩ rfl hl.1 (Nat.le_of_ble_eq_true rfl) ⟨by decide, by decide⟩ dX6_readSlip_57 rfl (fun H locs hW hS => ?_)
        refine lv_aload_n hx0 hb dX6_readSlip_60 rfl (lv_at hl 2 rfl) ?_
        refine gtX6_5 (k := o0) C hW ho0 flX6_37 dX6_readSlip_61 ?_
        obtain ⟨v64, h64, h⟩ := bnd h
        try dsimp only at h
        refine w_callSN (L := (LC E b)) (As := [.int (v57 o0 5)]) (rest := []) C hW hS (mX11_isSlipSize (v57 o0 5)  v57 v64 h64) cwX11_isSlipSize csX11_isSlipSize mnX6_120 ⟨by decide, by decide⟩ rfl hl.1 (Nat.le_of_ble_eq_true rfl) ⟨by decide, by decide⟩ dX6_readSlip_64 rfl (fun H locs hW hS => ?_)
        refine lv_if_ne (tgt := 72) hx0 hb dX6_readSlip_67 (by decide) (fun c67 => ?_) (fun c67 => ?_)
        · rw [if_neg c67] at h
          refine lv_aload_n hx0 hb dX6_readSlip_72 rfl (lv_at hl 2 rfl) ?_
          refine gtX6_0 (k := o0) C hW ho0 flX6_12 dX6_readSlip_73 ?_
          refine gtX7_0 (k := o0 + 1) C hW (chX6_0 ho0) flX6_66 dX6_readSlip_76 ?_
          refine lv_iload_n hx0 hb dX6_readSlip_79 rfl (lv_at hl 1 rfl) ?_
          refine lv_iload_n hx0 hb dX6_readSlip_80 rfl (lv_at hl 0 rfl) ?_
          refine lv_aload_n hx0 hb dX6_readSlip_81 rfl (lv_at hl 2 rfl) ?_
          refine gtX6_5 (k := o0) C hW ho0 flX6_37 dX6_readSlip_82 ?_
          obtain ⟨v85, h85, h⟩ := bnd h
          try dsimp only at h
          refine w_callV (L := (LC E b)) (k := (o0 + 1) + 1) (As := [.int (v16 o0 5), .int v45, .int (v57 o0 5)]) (rest := []) C hW hS (kdlt (chX7_0 (chX6_0 ho0)) (by decide)) (ccX10 (chX7_0 (chX6_0 ho0))) kcX10 (mX10_addSlip ((o0 + 1) + 1) (v16 o0 5) v45 (v57 o0 5) (chX7_0 (chX6_0 ho0)) v57 v85 h85) cwX10_addSlip cvX10_addSlip rfl mlX6_123 ⟨by decide, by decide⟩ rfl hl.1 (Nat.le_of_ble_eq_true rfl) ⟨by decide, by decide⟩ dX6_readSlip_85 rfl (fun H locs hW hS => ?_)
          refine lv_aload_n hx0 hb dX6_readSlip_88 rfl (lv_at hl 2 rfl) ?_
          obtain ⟨v89, h89, h⟩ := bnd h
          try dsimp only at h
          refine w_callV (L := (LC E b)) (k := o0) (As := []) (rest := []) C hW hS (kdlt ho0 (by decide)) (ccX6 ho0) kcX6 (mX6_nextToken o0 ho0 v85 v89 h89) cwX6_nextToken cvX6_nextToken rfl mlX6_43 ⟨by decide, by decide⟩ rfl hl.1 (Nat.le_of_ble_eq_true rfl) ⟨by decide, by decide⟩ dX6_readSlip_89 rfl (fun H locs hW hS => ?_)
          refine lv_iconst (v := (1 : Int32)) hx0 hb dX6_readSlip_92 (by decide) ?_
          cases h
          exact w_zret C hW hS (Or.inr rfl) dX6_readSlip_93
        · rw [if_pos c67] at h
          refine lv_iconst (v := (0 : Int32)) hx0 hb dX6_readSlip_70 (by decide) ?_
          cases h
          exact w_zret C hW hS (Or.inl rfl) dX6_readSlip_71
      · rw [if_pos c51] at h
        refine lv_iconst (v := (0 : Int32)) hx0 hb dX6_readSlip_54 (by decide) ?_
        cases h
        exact w_zret C hW hS (Or.inl rfl) dX6_readSlip_55
    · rw [if_pos c35] at h
      refine lv_iconst (v := (0 : Int32)) hx0 hb dX6_readSlip_38 (by decide) ?_
      cases h
      exact w_zret C hW hS (Or.inl rfl) dX6_readSlip_39
  · rw [if_pos c10] at h
    refine lv_iconst (v := (0 : Int32)) hx0 hb dX6_readSlip_13 (by decide) ?_
    cases h
    exact w_zret C hW hS (Or.inl rfl) dX6_readSlip_14
def fX6_styleNamed (o0 : Nat) (σ : Mem) : Option Int32 :=
  (fX6_isWord o0 6 σ).bind fun v3 => if v3 = 0 then ((fX6_isWord o0 7 σ).bind fun v14 => if v14 = 0 then ((fX6_isWord o0 8 σ).bind fun v25 => if v25 = 0 then ((fX6_isWord o0 9 σ).bind fun v36 => if v36 = 0 then (some (-1 : Int32)) else (some (3 : Int32))) else (some (2 : Int32))) else (some (1 : Int32))) else (some (0 : Int32))
set_option maxRecDepth 100000 in
set_option maxHeartbeats 4000000 in
theorem mX6_styleNamed {l : Launch} {E : Ev} {b : Nat} (o0 : Nat) (ho0 : kd o0 = 6) (σ : Mem) (r : Int32) (h : fX6_styleNamed o0 σ = some r) : Met l yX6_styleNamed (tw yX6_styleNamed cX6_styleNamed 1 (some .int)) { frames := 5, cells := 0, slots := 0, locals := 182 } (va_Pc [.ref (b + o0)] (Pr l E (LC E b) σ)) (Qz E (LC E b) (some (.int r)) σ) 0 0 (La (LC E b)) := by
  refine ct_of (by decide) (Nat.le_of_ble_eq_true rfl) ?_
  intro p e s m below meth c C hW hS ls hl
  have hx0 := C.1
  have hb := C.2.1
  have hl : lv_has ls 1 [(0, .ref (b + o0))] := hl
  unfold fX6_styleNamed at h
  refine lv_aload_n hx0 hb dX6_styleNamed_0 rfl (lv_at hl 0 rfl) ?_
  refine w_ldcS C 6 rfl dX6_styleNamed_1 ?_
  obtain ⟨v3, h3, h⟩ := bnd h
  try dsimp only at h
  refine w_callV (L := (LC E b)) (k := o0) (As := [.ref (E.2.2.1 6)]) (rest := []) C hW hS (kdlt ho0 (by decide)) (ccX6 ho0) kcX6 (mX6_isWord o0 6 ho0 (by decide : 6 < bytL.length) σ v3 h3) cwX6_isWord cvX6_isWord rfl mlX6_59 ⟨by decide, by decide⟩ rfl hl.1 (Nat.le_of_ble_eq_true rfl) ⟨by decide, by decide⟩ dX6_styleNamed_3 rfl (fun H locs hW hS => ?_)
  refine lv_if_eq (tgt := 11) hx0 hb dX6_styleNamed_6 (by decide) (fun c6 => ?_) (fun c6 => ?_)
  · rw [if_pos c6] at h
    refine lv_aload_n hx0 hb dX6_styleNamed_11 rfl (lv_at hl 0 rfl) ?_
    refine w_ldcS C 7 rfl dX6_styleNamed_12 ?_
    obtain ⟨v14, h14, h⟩ := bnd h
    try dsimp only at h
    refine w_callV (L := (LC E b)) (k := o0) (As := [.ref (E.2.2.1 7)]) (rest := []) C hW hS (kdlt ho0 (by decide)) (ccX6 ho0) kcX6 (mX6_isWord o0 7 ho0 (by decide : 7 < bytL.length) σ v14 h14) cwX6_isWord cvX6_isWord rfl mlX6_59 ⟨by decide, by decide⟩ rfl hl.1 (Nat.le_of_ble_eq_true rfl) ⟨by decide, by decide⟩ dX6_styleNamed_14 rfl (fun H locs hW hS => ?_)
    refine lv_if_eq (tgt := 22) hx0 hb dX6_styleNamed_17 (by decide) (fun c17 => ?_) (fun c17 => ?_)
    · rw [if_pos c17] at h
      refine lv_aload_n hx0 hb dX6_styleNamed_22 rfl (lv_at hl 0 rfl) ?_
      refine w_ldcS C 8 rfl dX6_styleNamed_23 ?_
      obtain ⟨v25, h25, h⟩ := bnd h
      try dsimp only at h
      refine w_callV (L := (LC E b)) (k := o0) (As := [.ref (E.2.2.1 8)]) (rest := []) C hW hS (kdlt ho0 (by decide)) (ccX6 ho0) kcX6 (mX6_isWord o0 8 ho0 (by decide : 8 < bytL.length) σ v25 h25) cwX6_isWord cvX6_isWord rfl mlX6_59 ⟨by decide, by decide⟩ rfl hl.1 (Nat.le_of_ble_eq_true rfl) ⟨by decide, by decide⟩ dX6_styleNamed_25 rfl (fun H locs hW hS => ?_)
      refine lv_if_eq (tgt := 33) hx0 hb dX6_styleNamed_28 (by decide) (fun c28 => ?_) (fun c28 => ?_)
      · rw [if_pos c28] at h
        refine lv_aload_n hx0 hb dX6_styleNamed_33 rfl (lv_at hl 0 rfl) ?_
        refine w_ldcS C 9 rfl dX6_styleNamed_34 ?_
        obtain ⟨v36, h36, h⟩ := bnd h
        try dsimp only at h
        refine w_callV (L := (LC E b)) (k := o0) (As := [.ref (E.2.2.1 9)]) (rest := []) C hW hS (kdlt ho0 (by decide)) (ccX6 ho0) kcX6 (mX6_isWord o0 9 ho0 (by decide : 9 < bytL.length) σ v36 h36) cwX6_isWord cvX6_isWord rfl mlX6_59 ⟨by decide, by decide⟩ rfl hl.1 (Nat.le_of_ble_eq_true rfl) ⟨by decide, by decide⟩ dX6_styleNamed_36 rfl (fun H locs hW hS => ?_)
        refine lv_if_eq (tgt := 46) hx0 hb dX6_styleNamed_39 (by decide) (fun c39 => ?_) (fun c39 => ?_)
        · rw [if_pos c39] at h
          refine lv_iconst (v := (-1 : Int32)) hx0 hb dX6_styleNamed_46 (by decide) ?_
          cases h
          exact w_iret C hW hS dX6_styleNamed_47
        · rw [if_neg c39] at h
          refine lv_iconst (v := (3 : Int32)) hx0 hb dX6_styleNamed_42 (by decide) ?_
          refine lv_goto (tgt := 47) hx0 hb dX6_styleNamed_43 (by decide) ?_
          cases h
          exact w_iret C hW hS dX6_styleNamed_47
      · rw [if_neg c28] at h
        refine lv_iconst (v := (2 : Int32)) hx0 hb dX6_styleNamed_31 (by decide) ?_
        cases h
        exact w_iret C hW hS dX6_styleNamed_32
    · rw [if_neg c17] at h
      refine lv_iconst (v := (1 : Int32)) hx0 hb dX6_styleNamed_20 (by decide) ?_
      cases h
      exact w_iret C hW hS dX6_styleNamed_21
  · rw [if_neg c6] at h
    refine lv_iconst (v := (0 : Int32)) hx0 hb dX6_styleNamed_9 (by decide) ?_
    cases h
    exact w_iret C hW hS dX6_styleNamed_10
def fX11_isStart (x0 : Int32) (σ : Mem) : Option Int32 :=
  if x0 < (1 : Int32) then (some (0 : Int32)) else (if (999 : Int32) < x0 then (some (0 : Int32)) else (some (1 : Int32)))
set_option maxRecDepth 100000 in
set_option maxHeartbeats 4000000 in
theorem mX11_isStart {l : Launch} {E : Ev} {b : Nat} (x0 : Int32) (σ : Mem) (r : Int32) (h : fX11_isStart x0 σ = some r) : Met l yX11_isStart (tw yX11_isStart cX11_isStart 1 (some .boolean)) { frames := 0, cells := 0, slots := 0, locals := 0 } (va_Pc [.int x0] (Pr l E (LC E b) σ)) (Qz E (LC E b) (some (.int r)) σ) 0 0 (La (LC E b)) := by
  refine ct_of (by decide) (Nat.le_of_ble_eq_true rfl) ?_
  intro p e s m below meth c C hW hS ls hl
  have hx0 := C.1
  have hb := C.2.1
  have hl : lv_has ls 1 [(0, .int x0)] := hl
  unfold fX11_isStart at h
  refine lv_iload_n hx0 hb dX11_isStart_0 rfl (lv_at hl 0 rfl) ?_
  refine lv_iconst (v := (1 : Int32)) hx0 hb dX11_isStart_1 (by decide) ?_
  refine lv_icmp_lt (tgt := 16) hx0 hb dX11_isStart_2 (by decide) (fun c2 => ?_) (fun c2 => ?_)
  · rw [if_pos c2] at h
    refine lv_iconst (v := (0 : Int32)) hx0 hb dX11_isStart_16 (by decide) ?_
    cases h
    exact w_zret C hW hS (Or.inl rfl) dX11_isStart_17
  · rw [if_neg c2] at h
    refine lv_iload_n hx0 hb dX11_isStart_5 rfl (lv_at hl 0 rfl) ?_
    refine lv_sipush (v := (999 : Int32)) hx0 hb dX11_isStart_6 (by decide) ?_
    refine lv_icmp_gt (tgt := 16) hx0 hb dX11_isStart_9 (by decide) (fun c9 => ?_) (fun c9 => ?_)
    · rw [if_pos c9] at h
      refine lv_iconst (v := (0 : Int32)) hx0 hb dX11_isStart_16 (by decide) ?_
      cases h
      exact w_zret C hW hS (Or.inl rfl) dX11_isStart_17
    · rw [if_neg c9] at h
      refine lv_iconst (v := (1 : Int32)) hx0 hb dX11_isStart_12 (by decide) ?_
      refine lv_goto (tgt := 17) hx0 hb dX11_isStart_13 (by decide) ?_
      cases h
      exact w_zret C hW hS (Or.inr rfl) dX11_isStart_17
def fX6_readLabel (o0 : Nat) (σ : Mem) : Option (Int32 × Mem) :=
  (fX1_takesRange ((o0 + 1) + 12) σ).bind fun v7 => if v7 = 0 then (some ((0 : Int32), σ)) else ((fX6_nextToken o0 σ).bind fun v16 => (fX10_hasLeaf ((o0 + 1) + 1) (v16 o0 5) v16).bind fun v32 => if v32 = 0 then (some ((0 : Int32), v16)) else ((fX6_nextToken o0 v16).bind fun v41 => (fX10_hasLeaf ((o0 + 1) + 1) (v41 o0 5) v41).bind fun v57 => if v57 = 0 then (some ((0 : Int32), v41)) else (if (v16 o0 5) ≤ (v41 o0 5) then ((fX6_nextToken o0 v41).bind fun v71 => (fX6_styleNamed o0 v71).bind fun v75 => if v75 = (-1 : Int32) then (some ((0 : Int32), v71)) else ((fX6_nextToken o0 v71).bind fun v87 => (fX11_isStart (v87 o0 5) v87).bind fun v94 => if v94 = 0 then (some ((0 : Int32), v87)) else ((fX1_add ((o0 + 1) + 12) (v16 o0 5) (v41 o0 5) v75 (v87 o0 5) v87).bind fun v116 => (fX6_nextToken o0 v116).bind fun v120 => some ((1 : Int32), v120)))) else (some ((0 : Int32), v41)))))
set_option maxRecDepth 100000 in
set_option maxHeartbeats 4000000 in
theorem mX6_readLabel {l : Launch} {E : Ev} {b : Nat} (o0 : Nat) (ho0 : kd o0 = 6) (σ : Mem) (r : (Int32 × Mem)) (h : fX6_readLabel o0 σ = some r) : Met l yX6_readLabel (tw yX6_readLabel cX6_readLabel 4 (some .boolean)) { frames := 6, cells := 0, slots := 0, locals := 202 } (va_Pc [.ref (b + o0)] (Pr l E (LC E b) σ)) (Qz E (LC E b) (some (.int r.1)) r.2) 0 0 (La (LC E b)) := by
  refine ct_of (by decide) (Nat.le_of_ble_eq_true rfl) ?_
  intro p e s m below meth c C hW hS ls hl
  have hx0 := C.1
  have hb := C.2.1
  have hl : lv_has ls 4 [(0, .ref (b + o0))] := hl
  unfold fX6_readLabel at h
  refine lv_aload_n hx0 hb dX6_readLabel_0 rfl (lv_at hl 0 rfl) ?_
  refine gtX6_0 (k := o0) C hW ho0 flX6_12 dX6_readLabel_1 ?_
  refine gtX7_1 (k := o0 + 1) C hW (chX6_0 ho0) flX6_127 dX6_readLabel_4 ?_
  obtain ⟨v7, h7, h⟩ := bnd h
  try dsimp only at h
  refine w_callV (L := (LC E b)) (k := (o0 + 1) + 12) (As := []) (rest := []) C hW hS (kdlt (chX7_1 (chX6_0 ho0)) (by decide)) (ccX1 (chX7_1 (chX6_0 ho0))) kcX1 (mX1_takesRange ((o0 + 1) + 12) (chX7_1 (chX6_0 ho0)) σ v7 h7) cwX1_takesRange cvX1_takesRange rfl mlX6_131 ⟨by decide, by decide⟩ rfl hl.1 (Nat.le_of_ble_eq_true rfl) ⟨by decide, by decide⟩ dX6_readLabel_7 rfl (fun H locs hW hS => ?_)
  refine lv_if_ne (tgt := 15) hx0 hb dX6_readLabel_10 (by decide) (fun c10 => ?_) (fun c10 => ?_)
  · rw [if_neg c10] at h
    refine lv_aload_n hx0 hb dX6_readLabel_15 rfl (lv_at hl 0 rfl) ?_
    obtain ⟨v16, h16, h⟩ := bnd h
    try dsimp only at h
    refine w_callV (L := (LC E b)) (k := o0) (As := []) (rest := []) C hW hS (kdlt ho0 (by decide)) (ccX6 ho0) kcX6 (mX6_nextToken o0 ho0 σ v16 h16) cwX6_nextToken cvX6_nextToken rfl mlX6_43 ⟨by decide, by decide⟩ rfl hl.1 (Nat.le_of_ble_eq_true rfl) ⟨by decide, by decide⟩ dX6_readLabel_16 rfl (fun H locs hW hS => ?_)
    refine lv_aload_n hx0 hb dX6_readLabel_19 rfl (lv_at hl 0 rfl) ?_
    refine gtX6_5 (k := o0) C hW ho0 flX6_37 dX6_readLabel_20 ?_
    refine lv_istore_n (lv' := [(1, .int (v16 o0 5)), (0, .ref (b + o0))]) hx0 hb dX6_readLabel_23 rfl hl (by decide) rfl (fun ls hl => ?_)
    refine lv_aload_n hx0 hb dX6_readLabel_24 rfl (lv_at hl 1 rfl) ?_
    refine gtX6_0 (k := o0) C hW ho0 flX6_12 dX6_readLabel_25 ?_
    refine gtX7_0 (k := o0 + 1) C hW (chX6_0 ho0) flX6_66 dX6_readLabel_28 ?_
    refine lv_iload_n hx0 hb dX6_readLabel_31 rfl (lv_at hl 0 rfl) ?_
    obtain ⟨v32, h32, h⟩ := bnd h
    try dsimp only at h
    refine w_callV (L := (LC E b)) (k := (o0 + 1) + 1) (As := [.int (v16 o0 5)]) (rest := []) C hW hS (kdlt (chX7_0 (chX6_0 ho0)) (by decide)) (ccX10 (chX7_0 (chX6_0 ho0))) kcX10 (mX10_hasLeaf ((o0 + 1) + 1) (v16 o0 5) (chX7_0 (chX6_0 ho0)) v16 v32 h32) cwX10_hasLeaf cvX10_hasLeaf rfl mlX6_100 ⟨by decide, by decide⟩ rfl hl.1 (Nat.le_of_ble_eq_true rfl) ⟨by decide, by decide⟩ dX6_readLabel_32 rfl (fun H locs hW hS => ?_)
    refine lv_if_ne (tgt := 40) hx0 hb dX6_readLabel_35 (by decide) (fun c35 => ?_) (fun c35 => ?_)
    · rw [if_neg c35] at h
      refine lv_aload_n hx0 hb dX6_readLabel_40 rfl (lv_at hl 1 rfl) ?_
      obtain ⟨v41, h41, h⟩ := bnd h
      try dsimp only at h
      refine w_callV (L := (LC E b)) (k := o0) (As := []) (rest := []) C hW hS (kdlt ho0 (by decide)) (ccX6 ho0) kcX6 (mX6_nextToken o0 ho0 v16 v41 h41) cwX6_nextToken cvX6_nextToken rfl mlX6_43 ⟨by decide, by decide⟩ rfl hl.1 (Nat.le_of_ble_eq_true rfl) ⟨by decide, by decide⟩ dX6_readLabel_41 rfl (fun H locs hW hS => ?_)
      refine lv_aload_n hx0 hb dX6_readLabel_44 rfl (lv_at hl 1 rfl) ?_
      refine gtX6_5 (k := o0) C hW ho0 flX6_37 dX6_readLabel_45 ?_
      refine lv_istore_n (lv' := [(2, .int (v41 o0 5)), (1, .int (v16 o0 5)), (0, .ref (b + o0))]) hx0 hb dX6_readLabel_48 rfl hl (by decide) rfl (fun ls hl => ?_)
      refine lv_aload_n hx0 hb dX6_readLabel_49 rfl (lv_at hl 2 rfl) ?_
      refine gtX6_0 (k := o0) C hW ho0 flX6_12 dX6_readLabel_50 ?_
      refine gtX7_0 (k := o0 + 1) C hW (chX6_0 ho0) flX6_66 dX6_readLabel_53 ?_
      refine lv_iload_n hx0 hb dX6_readLabel_56 rfl (lv_at hl 0 rfl) ?_
      obtain ⟨v57, h57, h⟩ := bnd h
      try dsimp only at h
      refine w_callV (L := (LC E b)) (k := (o0 + 1) + 1) (As := [.int (v41 o0 5)]) (rest := []) C hW hS (kdlt (chX7_0 (chX6_0 ho0)) (by decide)) (ccX10 (chX7_0 (chX6_0 ho0))) kcX10 (mX10_hasLeaf ((o0 + 1) + 1) (v41 o0 5) (chX7_0 (chX6_0 ho0)) v41 v57 h57) cwX10_hasLeaf cvX10_hasLeaf rfl mlX6_100 ⟨by decide, by decide⟩ rfl hl.1 (Nat.le_of_ble_eq_true rfl) ⟨by decide, by decide⟩ dX6_readLabel_57 rfl (fun H locs hW hS => ?_)
      refine lv_if_eq (tgt := 68) hx0 hb dX6_readLabel_60 (by decide) (fun c60 => ?_) (fun c60 => ?_)
      · rw [if_pos c60] at h
        refine lv_iconst (v := (0 : Int32)) hx0 hb dX6_readLabel_68 (by decide) ?_
        cases h
        exact w_zret C hW hS (Or.inl rfl) dX6_readLabel_69
      · rw [if_neg c60] at h
        refine lv_iload_n hx0 hb dX6_readLabel_63 rfl (lv_at hl 0 rfl) ?_
        refine lv_iload_n hx0 hb dX6_readLabel_64 rfl (lv_at hl 1 rfl) ?_
        refine lv_icmp_ge (tgt := 70) hx0 hb dX6_readLabel_65 (by decide) (fun c65 => ?_) (fun c65 => ?_)
        · rw [if_pos c65] at h
          refine lv_aload_n hx0 hb dX6_readLabel_70 rfl (lv_at hl 2 rfl) ?_
          obtain ⟨v71, h71, h⟩ := bnd h
          try dsimp only at h
          refine w_callV (L := (LC E b)) (k := o0) (As := []) (rest := []) C hW hS (kdlt ho0 (by decide)) (ccX6 ho0) kcX6 (mX6_nextToken o0 ho0 v41 v71 h71) cwX6_nextToken cvX6_nextToken rfl mlX6_43 ⟨by decide, by decide⟩ rfl hl.1 (Nat.le_of_ble_eq_true rfl) ⟨by decide, by decide⟩ dX6_readLabel_71 rfl (fun H locs hW hS => ?_)
          refine lv_aload_n hx0 hb dX6_readLabel_74 rfl (lv_at hl 2 rfl) ?_
          obtain ⟨v75, h75, h⟩ := bnd h
          try dsimp only at h
          refine w_callV (L := (LC E b)) (k := o0) (As := []) (rest := []) C hW hS (kdlt ho0 (by decide)) (ccX6 ho0) kcX6 (mX6_styleNamed o0 ho0 v71 v75 h75) cwX6_styleNamed cvX6_styleNamed rfl mlX6_136 ⟨by decide, by decide⟩ rfl hl.1 (Nat.le_of_ble_eq_true rfl) ⟨by decide, by decide⟩ dX6_readLabel_75 rfl (fun H locs hW hS => ?_)
          refine lv_istore_n (lv' := [(3, .int v75), (2, .int (v41 o0 5)), (1, .int (v16 o0 5)), (0, .ref (b + o0))]) hx0 hb dX6_readLabel_78 rfl hl (by decide) rfl (fun ls hl => ?_)
          refine lv_iload_n hx0 hb dX6_readLabel_79 rfl (lv_at hl 0 rfl) ?_
          refine lv_iconst (v := (-1 : Int32)) hx0 hb dX6_readLabel_80 (by decide) ?_
          refine lv_icmp_ne (tgt := 86) hx0 hb dX6_readLabel_81 (by decide) (fun c81 => ?_) (fun c81 => ?_)
          · rw [if_neg c81] at h
            refine lv_aload_n hx0 hb dX6_readLabel_86 rfl (lv_at hl 3 rfl) ?_
            obtain ⟨v87, h87, h⟩ := bnd h
            try dsimp only at h
            refine w_callV (L := (LC E b)) (k := o0) (As := []) (rest := []) C hW hS (kdlt ho0 (by decide)) (ccX6 ho0) kcX6 (mX6_nextToken o0 ho0 v71 v87 h87) cwX6_nextToken cvX6_nextToken rfl mlX6_43 ⟨by decide, by decide⟩ rfl hl.1 (Nat.le_of_ble_eq_true rfl) ⟨by decide, by decide⟩ dX6_readLabel_87 rfl (fun H locs hW hS => ?_)
            refine lv_aload_n hx0 hb dX6_readLabel_90 rfl (lv_at hl 3 rfl) ?_
            refine gtX6_5 (k := o0) C hW ho0 flX6_37 dX6_readLabel_91 ?_
            obtain ⟨v94, h94, h⟩ := bnd h
            try dsimp only at h
            refine w_callSN (L := (LC E b)) (As := [.int (v87 o0 5)]) (rest := []) C hW hS (mX11_isStart (v87 o0 5)  v87 v94 h94) cwX11_isStart csX11_isStart mnX6_139 ⟨by decide, by decide⟩ rfl hl.1 (Nat.le_of_ble_eq_true rfl) ⟨by decide, by decide⟩ dX6_readLabel_94 rfl (fun H locs hW hS => ?_)
            refine lv_if_ne (tgt := 102) hx0 hb dX6_readLabel_97 (by decide) (fun c97 => ?_) (fun c97 => ?_)
            · rw [if_neg c97] at h
              refine lv_aload_n hx0 hb dX6_readLabel_102 rfl (lv_at hl 3 rfl) ?_
              refine gtX6_0 (k := o0) C hW ho0 flX6_12 dX6_readLabel_103 ?_
              refine gtX7_1 (k := o0 + 1) C hW (chX6_0 ho0) flX6_127 dX6_readLabel_106 ?_
              refine lv_iload_n hx0 hb dX6_readLabel_109 rfl (lv_at hl 2 rfl) ?_
              refine lv_iload_n hx0 hb dX6_readLabel_110 rfl (lv_at hl 1 rfl) ?_
              refine lv_iload_n hx0 hb dX6_readLabel_111 rfl (lv_at hl 0 rfl) ?_
              refine lv_aload_n hx0 hb dX6_readLabel_112 rfl (lv_at hl 3 rfl) ?_
              refine gtX6_5 (k := o0) C hW ho0 flX6_37 dX6_readLabel_113 ?_
              obtain ⟨v116, h116, h⟩ := bnd h
              try dsimp only at h
              refine w_callV (L := (LC E b)) (k := (o0 + 1) + 12) (As := [.int (v16 o0 5), .int (v41 o0 5), .int v75, .int (v87 o0 5)]) (rest := []) C hW hS (kdlt (chX7_1 (chX6_0 ho0)) (by decide)) (ccX1 (chX7_1 (chX6_0 ho0))) kcX1 (mX1_add ((o0 + 1) + 12) (v16 o0 5) (v41 o0 5) v75 (v87 o0 5) (chX7_1 (chX6_0 ho0)) v87 v116 h116) cwX1_add cvX1_add rfl mlX6_142 ⟨by decide, by decide⟩ rfl hl.1 (Nat.le_of_ble_eq_true rfl) ⟨by decide, by decide⟩ dX6_readLabel_116 rfl (fun H locs hW hS => ?_)
              refine lv_aload_n hx0 hb dX6_readLabel_119 rfl (lv_at hl 3 rfl) ?_
              obtain ⟨v120, h120, h⟩ := bnd h
              try dsimp only at h
              refine w_callV (L := (LC E b)) (k := o0) (As := []) (rest := []) C hW hS (kdlt ho0 (by decide)) (ccX6 ho0) kcX6 (mX6_nextToken o0 ho0 v116 v120 h120) cwX6_nextToken cvX6_nextToken rfl mlX6_43 ⟨by decide, by decide⟩ rfl hl.1 (Nat.le_of_ble_eq_true rfl) ⟨by decide, by decide⟩ dX6_readLabel_120 rfl (fun H locs hW hS => ?_)
              refine lv_iconst (v := (1 : Int32)) hx0 hb dX6_readLabel_123 (by decide) ?_
              cases h
              exact w_zret C hW hS (Or.inr rfl) dX6_readLabel_124
            · rw [if_pos c97] at h
              refine lv_iconst (v := (0 : Int32)) hx0 hb dX6_readLabel_100 (by decide) ?_
              cases h
              exact w_zret C hW hS (Or.inl rfl) dX6_readLabel_101
          · rw [if_pos c81] at h
            refine lv_iconst (v := (0 : Int32)) hx0 hb dX6_readLabel_84 (by decide) ?_
            cases h
            exact w_zret C hW hS (Or.inl rfl) dX6_readLabel_85
        · rw [if_neg c65] at h
          refine lv_iconst (v := (0 : Int32)) hx0 hb dX6_readLabel_68 (by decide) ?_
          cases h
          exact w_zret C hW hS (Or.inl rfl) dX6_readLabel_69
    · rw [if_pos c35] at h
      refine lv_iconst (v := (0 : Int32)) hx0 hb dX6_readLabel_38 (by decide) ?_
      cases h
      exact w_zret C hW hS (Or.inl rfl) dX6_readLabel_39
  · rw [if_pos c10] at h
    refine lv_iconst (v := (0 : Int32)) hx0 hb dX6_readLabel_13 (by decide) ?_
    cases h
    exact w_zret C hW hS (Or.inl rfl) dX6_readLabel_14
def fX6_readStatement (o0 : Nat) (σ : Mem) : Option (Int32 × Mem) :=
  (fX6_isWord o0 0 σ).bind fun v3 => if v3 = 0 then ((fX10_quireCount ((o0 + 1) + 1) σ).bind fun v21 => if v21 = 0 then (some ((0 : Int32), σ)) else ((fX6_isWord o0 1 σ).bind fun v32 => if v32 = 0 then ((fX6_isWord o0 2 σ).bind fun v46 => if v46 = 0 then ((fX6_isWord o0 5 σ).bind fun v60 => if v60 = 0 then (some ((0 : Int32), σ)) else ((fX6_readLabel o0 σ).bind fun v67 => if v67.1 = 0 then (some ((0 : Int32), v67.2)) else (some ((1 : Int32), v67.2)))) else ((fX6_readSlip o0 σ).bind fun v53 => if v53.1 = 0 ∨ v53.1 = 1 then some (v53.1, v53.2) else none)) else ((fX6_readMissing o0 σ).bind fun v39 => if v39.1 = 0 ∨ v39.1 = 1 then some (v39.1, v39.2) else none))) else ((fX6_readQuire o0 σ).bind fun v10 => if v10.1 = 0 ∨ v10.1 = 1 then some (v10.1, v10.2) else none)
set_option maxRecDepth 100000 in
set_option maxHeartbeats 4000000 in
theorem mX6_readStatement {l : Launch} {E : Ev} {b : Nat} (o0 : Nat) (ho0 : kd o0 = 6) (σ : Mem) (r : (Int32 × Mem)) (h : fX6_readStatement o0 σ = some r) : Met l yX6_readStatement (tw yX6_readStatement cX6_readStatement 1 (some .boolean)) { frames := 7, cells := 0, slots := 0, locals := 225 } (va_Pc [.ref (b + o0)] (Pr l E (LC E b) σ)) (Qz E (LC E b) (some (.int r.1)) r.2) 0 0 (La (LC E b)) := by
  refine ct_of (by decide) (Nat.le_of_ble_eq_true rfl) ?_
  intro p e s m below meth c C hW hS ls hl
  have hx0 := C.1
  have hb := C.2.1
  have hl : lv_has ls 1 [(0, .ref (b + o0))] := hl
  unfold fX6_readStatement at h
  refine lv_aload_n hx0 hb dX6_readStatement_0 rfl (lv_at hl 0 rfl) ?_
  refine w_ldcS C 0 rfl dX6_readStatement_1 ?_
  obtain ⟨v3, h3, h⟩ := bnd h
  try dsimp only at h
  refine w_callV (L := (LC E b)) (k := o0) (As := [.ref (E.2.2.1 0)]) (rest := []) C hW hS (kdlt ho0 (by decide)) (ccX6 ho0) kcX6 (mX6_isWord o0 0 ho0 (by decide : 0 < bytL.length) σ v3 h3) cwX6_isWord cvX6_isWord rfl mlX6_59 ⟨by decide, by decide⟩ rfl hl.1 (Nat.le_of_ble_eq_true rfl) ⟨by decide, by decide⟩ dX6_readStatement_3 rfl (fun H locs hW hS => ?_)
  refine lv_if_eq (tgt := 14) hx0 hb dX6_readStatement_6 (by decide) (fun c6 => ?_) (fun c6 => ?_)
  · rw [if_pos c6] at h
    refine lv_aload_n hx0 hb dX6_readStatement_14 rfl (lv_at hl 0 rfl) ?_
    refine gtX6_0 (k := o0) C hW ho0 flX6_12 dX6_readStatement_15 ?_
    refine gtX7_0 (k := o0 + 1) C hW (chX6_0 ho0) flX6_66 dX6_readStatement_18 ?_
    obtain ⟨v21, h21, h⟩ := bnd h
    try dsimp only at h
    refine w_callV (L := (LC E b)) (k := (o0 + 1) + 1) (As := []) (rest := []) C hW hS (kdlt (chX7_0 (chX6_0 ho0)) (by decide)) (ccX10 (chX7_0 (chX6_0 ho0))) kcX10 (mX10_quireCount ((o0 + 1) + 1) (chX7_0 (chX6_0 ho0)) σ v21 h21) cwX10_quireCount cvX10_quireCount rfl mlX6_70 ⟨by decide, by decide⟩ rfl hl.1 (Nat.le_of_ble_eq_true rfl) ⟨by decide, by decide⟩ dX6_readStatement_21 rfl (fun H locs hW hS => ?_)
    refine lv_if_ne (tgt := 29) hx0 hb dX6_readStatement_24 (by decide) (fun c24 => ?_) (fun c24 => ?_)
    · rw [if_neg c24] at h
      refine lv_aload_n hx0 hb dX6_readStatement_29 rfl (lv_at hl 0 rfl) ?_
      refine w_ldcS C 1 rfl dX6_readStatement_30 ?_
      obtain ⟨v32, h32, h⟩ := bnd h
      try dsimp only at h
      refine w_callV (L := (LC E b)) (k := o0) (As := [.ref (E.2.2.1 1)]) (rest := []) C hW hS (kdlt ho0 (by decide)) (ccX6 ho0) kcX6 (mX6_isWord o0 1 ho0 (by decide : 1 < bytL.length) σ v32 h32) cwX6_isWord cvX6_isWord rfl mlX6_59 ⟨by decide, by decide⟩ rfl hl.1 (Nat.le_of_ble_eq_true rfl) ⟨by decide, by decide⟩ dX6_readStatement_32 rfl (fun H locs hW hS => ?_)
      refine lv_if_eq (tgt := 43) hx0 hb dX6_readStatement_35 (by decide) (fun c35 => ?_) (fun c35 => ?_)
      · rw [if_pos c35] at h
        refine lv_aload_n hx0 hb dX6_readStatement_43 rfl (lv_at hl 0 rfl) ?_
        refine w_ldcS C 2 rfl dX6_readStatement_44 ?_
        obtain ⟨v46, h46, h⟩ := bnd h
        try dsimp only at h
        refine w_callV (L := (LC E b)) (k := o0) (As := [.ref (E.2.2.1 2)]) (rest := []) C hW hS (kdlt ho0 (by decide)) (ccX6 ho0) kcX6 (mX6_isWord o0 2 ho0 (by decide : 2 < bytL.length) σ v46 h46) cwX6_isWord cvX6_isWord rfl mlX6_59 ⟨by decide, by decide⟩ rfl hl.1 (Nat.le_of_ble_eq_true rfl) ⟨by decide, by decide⟩ dX6_readStatement_46 rfl (fun H locs hW hS => ?_)
        refine lv_if_eq (tgt := 57) hx0 hb dX6_readStatement_49 (by decide) (fun c49 => ?_) (fun c49 => ?_)
        · rw [if_pos c49] at h
          refine lv_aload_n hx0 hb dX6_readStatement_57 rfl (lv_at hl 0 rfl) ?_
          refine w_ldcS C 5 rfl dX6_readStatement_58 ?_
          obtain ⟨v60, h60, h⟩ := bnd h
          try dsimp only at h
          refine w_callV (L := (LC E b)) (k := o0) (As := [.ref (E.2.2.1 5)]) (rest := []) C hW hS (kdlt ho0 (by decide)) (ccX6 ho0) kcX6 (mX6_isWord o0 5 ho0 (by decide : 5 < bytL.length) σ v60 h60) cwX6_isWord cvX6_isWord rfl mlX6_59 ⟨by decide, by decide⟩ rfl hl.1 (Nat.le_of_ble_eq_true rfl) ⟨by decide, by decide⟩ dX6_readStatement_60 rfl (fun H locs hW hS => ?_)
          refine lv_if_eq (tgt := 77) hx0 hb dX6_readStatement_63 (by decide) (fun c63 => ?_) (fun c63 => ?_)
          · rw [if_pos c63] at h
            refine lv_iconst (v := (0 : Int32)) hx0 hb dX6_readStatement_77 (by decide) ?_
            cases h
            exact w_zret C hW hS (Or.inl rfl) dX6_readStatement_78
          · rw [if_neg c63] at h
            refine lv_aload_n hx0 hb dX6_readStatement_66 rfl (lv_at hl 0 rfl) ?_
            obtain ⟨v67, h67, h⟩ := bnd h
            try dsimp only at h
            refine w_callV (L := (LC E b)) (k := o0) (As := []) (rest := []) C hW hS (kdlt ho0 (by decide)) (ccX6 ho0) kcX6 (mX6_readLabel o0 ho0 σ v67 h67) cwX6_readLabel cvX6_readLabel rfl mlX6_87 ⟨by decide, by decide⟩ rfl hl.1 (Nat.le_of_ble_eq_true rfl) ⟨by decide, by decide⟩ dX6_readStatement_67 rfl (fun H locs hW hS => ?_)
            refine lv_if_eq (tgt := 77) hx0 hb dX6_readStatement_70 (by decide) (fun c70 => ?_) (fun c70 => ?_)
            · rw [if_pos c70] at h
              refine lv_iconst (v := (0 : Int32)) hx0 hb dX6_readStatement_77 (by decide) ?_
              cases h
              exact w_zret C hW hS (Or.inl rfl) dX6_readStatement_78
            · rw [if_neg c70] at h
              refine lv_iconst (v := (1 : Int32)) hx0 hb dX6_readStatement_73 (by decide) ?_
              refine lv_goto (tgt := 78) hx0 hb dX6_readStatement_74 (by decide) ?_
              cases h
              exact w_zret C hW hS (Or.inr rfl) dX6_readStatement_78
        · rw [if_neg c49] at h
          refine lv_aload_n hx0 hb dX6_readStatement_52 rfl (lv_at hl 0 rfl) ?_
          obtain ⟨v53, h53, h⟩ := bnd h
          try dsimp only at h
          refine w_callV (L := (LC E b)) (k := o0) (As := []) (rest := []) C hW hS (kdlt ho0 (by decide)) (ccX6 ho0) kcX6 (mX6_readSlip o0 ho0 σ v53 h53) cwX6_readSlip cvX6_readSlip rfl mlX6_82 ⟨by decide, by decide⟩ rfl hl.1 (Nat.le_of_ble_eq_true rfl) ⟨by decide, by decide⟩ dX6_readStatement_53 rfl (fun H locs hW hS => ?_)
          by_cases z56 : v53.1 = 0 ∨ v53.1 = 1
          case neg => rw [if_neg z56] at h; cases h
          rw [if_pos z56] at h
          cases h
          exact w_zret C hW hS z56 dX6_readStatement_56
      · rw [if_neg c35] at h
        refine lv_aload_n hx0 hb dX6_readStatement_38 rfl (lv_at hl 0 rfl) ?_
        obtain ⟨v39, h39, h⟩ := bnd h
        try dsimp only at h
        refine w_callV (L := (LC E b)) (k := o0) (As := []) (rest := []) C hW hS (kdlt ho0 (by decide)) (ccX6 ho0) kcX6 (mX6_readMissing o0 ho0 σ v39 h39) cwX6_readMissing cvX6_readMissing rfl mlX6_77 ⟨by decide, by decide⟩ rfl hl.1 (Nat.le_of_ble_eq_true rfl) ⟨by decide, by decide⟩ dX6_readStatement_39 rfl (fun H locs hW hS => ?_)
        by_cases z42 : v39.1 = 0 ∨ v39.1 = 1
        case neg => rw [if_neg z42] at h; cases h
        rw [if_pos z42] at h
        cases h
        exact w_zret C hW hS z42 dX6_readStatement_42
    · rw [if_pos c24] at h
      refine lv_iconst (v := (0 : Int32)) hx0 hb dX6_readStatement_27 (by decide) ?_
      cases h
      exact w_zret C hW hS (Or.inl rfl) dX6_readStatement_28
  · rw [if_neg c6] at h
    refine lv_aload_n hx0 hb dX6_readStatement_9 rfl (lv_at hl 0 rfl) ?_
    obtain ⟨v10, h10, h⟩ := bnd h
    try dsimp only at h
    refine w_callV (L := (LC E b)) (k := o0) (As := []) (rest := []) C hW hS (kdlt ho0 (by decide)) (ccX6 ho0) kcX6 (mX6_readQuire o0 ho0 σ v10 h10) cwX6_readQuire cvX6_readQuire rfl mlX6_63 ⟨by decide, by decide⟩ rfl hl.1 (Nat.le_of_ble_eq_true rfl) ⟨by decide, by decide⟩ dX6_readStatement_10 rfl (fun H locs hW hS => ?_)
    by_cases z13 : v10.1 = 0 ∨ v10.1 = 1
    case neg => rw [if_neg z13] at h; cases h
    rw [if_pos z13] at h
    cases h
    exact w_zret C hW hS z13 dX6_readStatement_13
def fX6_isSemicolon (o0 : Nat) (σ : Mem) : Option Int32 :=
  if (σ o0 2) = (3 : Int32) then ((fX8_byteAt (o0 + 32) (σ o0 3) σ).bind fun v16 => if v16 = (59 : Int32) then (some (1 : Int32)) else (some (0 : Int32))) else (some (0 : Int32))
set_option maxRecDepth 100000 in
set_option maxHeartbeats 4000000 in
theorem mX6_isSemicolon {l : Launch} {E : Ev} {b : Nat} (o0 : Nat) (ho0 : kd o0 = 6) (σ : Mem) (r : Int32) (h : fX6_isSemicolon o0 σ = some r) : Met l yX6_isSemicolon (tw yX6_isSemicolon cX6_isSemicolon 1 (some .boolean)) { frames := 1, cells := 0, slots := 0, locals := 21 } (va_Pc [.ref (b + o0)] (Pr l E (LC E b) σ)) (Qz E (LC E b) (some (.int r)) σ) 0 0 (La (LC E b)) := by
  refine ct_of (by decide) (Nat.le_of_ble_eq_true rfl) ?_
  intro p e s m below meth c C hW hS ls hl
  have hx0 := C.1
  have hb := C.2.1
  have hl : lv_has ls 1 [(0, .ref (b + o0))] := hl
  unfold fX6_isSemicolon at h
  refine lv_aload_n hx0 hb dX6_isSemicolon_0 rfl (lv_at hl 0 rfl) ?_
  refine gtX6_2 (k := o0) C hW ho0 flX6_27 dX6_isSemicolon_1 ?_
  refine lv_iconst (v := (3 : Int32)) hx0 hb dX6_isSemicolon_4 (by decide) ?_
  refine lv_icmp_ne (tgt := 28) hx0 hb dX6_isSemicolon_5 (by decide) (fun c5 => ?_) (fun c5 => ?_)
  · rw [if_neg c5] at h
    refine lv_iconst (v := (0 : Int32)) hx0 hb dX6_isSemicolon_28 (by decide) ?_
    cases h
    exact w_zret C hW hS (Or.inl rfl) dX6_isSemicolon_29
  · rw [if_pos c5] at h
    refine lv_aload_n hx0 hb dX6_isSemicolon_8 rfl (lv_at hl 0 rfl) ?_
    refine gtX6_1 (k := o0) C hW ho0 flX6_23 dX6_isSemicolon_9 ?_
    refine lv_aload_n hx0 hb dX6_isSemicolon_12 rfl (lv_at hl 0 rfl) ?_
    refine gtX6_3 (k := o0) C hW ho0 flX6_31 dX6_isSemicolon_13 ?_
    obtain ⟨v16, h16, h⟩ := bnd h
    try dsimp only at h
    refine w_callV (L := (LC E b)) (k := o0 + 32) (As := [.int (σ o0 3)]) (rest := []) C hW hS (kdlt (chX6_1 ho0) (by decide)) (ccX8 (chX6_1 ho0)) kcX8 (mX8_byteAt (o0 + 32) (σ o0 3) (chX6_1 ho0) σ v16 h16) cwX8_byteAt cvX8_byteAt rfl mlX6_158 ⟨by decide, by decide⟩ rfl hl.1 (Nat.le_of_ble_eq_true rfl) ⟨by decide, by decide⟩ dX6_isSemicolon_16 rfl (fun H locs hW hS => ?_)
    refine lv_bipush (v := (59 : Int32)) hx0 hb dX6_isSemicolon_19 (by decide) ?_
    refine lv_icmp_ne (tgt := 28) hx0 hb dX6_isSemicolon_21 (by decide) (fun c21 => ?_) (fun c21 => ?_)
    · rw [if_neg c21] at h
      refine lv_iconst (v := (0 : Int32)) hx0 hb dX6_isSemicolon_28 (by decide) ?_
      cases h
      exact w_zret C hW hS (Or.inl rfl) dX6_isSemicolon_29
    · rw [if_pos c21] at h
      refine lv_iconst (v := (1 : Int32)) hx0 hb dX6_isSemicolon_24 (by decide) ?_
      refine lv_goto (tgt := 29) hx0 hb dX6_isSemicolon_25 (by decide) ?_
      cases h
      exact w_zret C hW hS (Or.inr rfl) dX6_isSemicolon_29
def fX6_firstError_l23 (o0 : Nat) : Nat → Int32 → Int32 → Mem → Option (Int32 × Int32 × Mem)
  | 0, _, _, _ => none
  | n + 1, x1, x2, σ => (fX8_size (o0 + 32) σ).bind fun v28 => if v28 ≤ x2 then (some (x1, x2, σ)) else (if x1 = 0 then (some (x1, x2, σ)) else ((fX6_isSemicolon o0 σ).bind fun v39 => if v39 = 0 then (some (x1, x2, σ)) else ((fX6_nextToken o0 σ).bind fun v46 => (fX6_readStatement o0 v46).bind fun v50 => fX6_firstError_l23 o0 n v50.1 (x2 + (1 : Int32)) v50.2)))
set_option maxRecDepth 100000 in
set_option maxHeartbeats 4000000 in
theorem bX6_firstError_l23 {p : Program} {l : Launch} {e : Env} {s : State} {m : MethodId} {args : Array Value} {below : List Frame} {meth : Method} {c : Code} {E : Ev} {b : Nat} (C : Cx p l s m args meth c E cX6_firstError 3 RX6 (some .int)) (o0 : Nat) (ho0 : kd o0 = 6) {Qf : State → Prop} {q : Int32 × Int32 × Mem} (hx : ∀ H locs ls, Wd E (LC E b) q.2.2 H → va_S (La (LC E b)) s.heap H locs → lv_has ls 3 [(0, .ref (b + o0)), (1, .int q.1), (2, .int q.2.1)] → W p l e { frames := 8, cells := 0, slots := 0, locals := 245 } s m args below meth c H locs 0 0 Qf (F0 m 60 ls [])) : ∀ (n : Nat) (x1 : Int32) (x2 : Int32) (σ : Mem), fX6_firstError_l23 o0 n x1 x2 σ = some q → ∀ (H : Heap) (locs : List Loc) (ls : Array Slot), Wd E (LC E b) σ H → va_S (La (LC E b)) s.heap H locs → lv_has ls 3 [(0, .ref (b + o0)), (1, .int x1), (2, .int x2)] → W p l e { frames := 8, cells := 0, slots := 0, locals := 245 } s m args below meth c H locs 0 0 Qf (F0 m 23 ls []) := by
  have hx0 := C.1
  have hb := C.2.1
  intro n
  induction n with
  | zero => intro x1 x2 σ h; simp [fX6_firstError_l23] at h
  | succ n ih =>
    intro x1 x2 σ h H locs ls hW hS hl
    unfold fX6_firstError_l23 at h
    refine lv_iload_n hx0 hb dX6_firstError_23 rfl (lv_at hl 2 rfl) ?_
    refine lv_aload_n hx0 hb dX6_firstError_24 rfl (lv_at hl 0 rfl) ?_
    refine gtX6_1 (k := o0) C hW ho0 flX6_23 dX6_firstError_25 ?_
    obtain ⟨v28, h28, h⟩ := bnd h
    try dsimp only at h
    refine w_callV (L := (LC E b)) (k := o0 + 32) (As := []) (rest := [.int x2]) C hW hS (kdlt (chX6_1 ho0) (by decide)) (ccX8 (chX6_1 ho0)) kcX8 (mX8_size (o0 + 32) (chX6_1 ho0) σ v28 h28) cwX8_size cvX8_size rfl mlX6_50 ⟨by decide, by decide⟩ rfl hl.1 (Nat.le_of_ble_eq_true rfl) ⟨by decide, by decide⟩ dX6_firstError_28 rfl (fun H locs hW hS => ?_)
    refine lv_icmp_ge (tgt := 60) hx0 hb dX6_firstError_31 (by decide) (fun c31 => ?_) (fun c31 => ?_)
    · rw [if_pos c31] at h
      cases h
      exact hx _ _ _ hW hS (lv_sub hl [0, 1, 2] rfl)
    · rw [if_neg c31] at h
      refine lv_iload_n hx0 hb dX6_firstError_34 rfl (lv_at hl 1 rfl) ?_
      refine lv_if_eq (tgt := 60) hx0 hb dX6_firstError_35 (by decide) (fun c35 => ?_) (fun c35 => ?_)
      · rw [if_pos c35] at h
        cases h
        exact hx _ _ _ hW hS (lv_sub hl [0, 1, 2] rfl)
      · rw [if_neg c35] at h
        refine lv_aload_n hx0 hb dX6_firstError_38 rfl (lv_at hl 0 rfl) ?_
        obtain ⟨v39, h39, h⟩ := bnd h
        try dsimp only at h
        refine w_callV (L := (LC E b)) (k := o0) (As := []) (rest := []) C hW hS (kdlt ho0 (by decide)) (ccX6 ho0) kcX6 (mX6_isSemicolon o0 ho0 σ v39 h39) cwX6_isSemicolon cvX6_isSemicolon rfl mlX6_54 ⟨by decide, by decide⟩ rfl hl.1 (Nat.le_of_ble_eq_true rfl) ⟨by decide, by decide⟩ dX6_firstError_39 rfl (fun H locs hW hS => ?_)
        refine lv_if_eq (tgt := 60) hx0 hb dX6_firstError_42 (by decide) (fun c42 => ?_) (fun c42 => ?_)
        · rw [if_pos c42] at h
          cases h
          exact hx _ _ _ hW hS (lv_sub hl [0, 1, 2] rfl)
        · rw [if_neg c42] at h
          refine lv_aload_n hx0 hb dX6_firstError_45 rfl (lv_at hl 0 rfl) ?_
          obtain ⟨v46, h46, h⟩ := bnd h
          try dsimp only at h
          refine w_callV (L := (LC E b)) (k := o0) (As := []) (rest := []) C hW hS (kdlt ho0 (by decide)) (ccX6 ho0) kcX6 (mX6_nextToken o0 ho0 σ v46 h46) cwX6_nextToken cvX6_nextToken rfl mlX6_43 ⟨by decide, by decide⟩ rfl hl.1 (Nat.le_of_ble_eq_true rfl) ⟨by decide, by decide⟩ dX6_firstError_46 rfl (fun H locs hW hS => ?_)
          refine lv_aload_n hx0 hb dX6_firstError_49 rfl (lv_at hl 0 rfl) ?_
          obtain ⟨v50, h50, h⟩ := bnd h
          try dsimp only at h
          refine w_callV (L := (LC E b)) (k := o0) (As := []) (rest := []) C hW hS (kdlt ho0 (by decide)) (ccX6 ho0) kcX6 (mX6_readStatement o0 ho0 v46 v50 h50) cwX6_readStatement cvX6_readStatement rfl mlX6_46 ⟨by decide, by decide⟩ rfl hl.1 (Nat.le_of_ble_eq_true rfl) ⟨by decide, by decide⟩ dX6_firstError_50 rfl (fun H locs hW hS => ?_)
          refine lv_istore_n (lv' := [(1, .int v50.1), (0, .ref (b + o0)), (2, .int x2)]) hx0 hb dX6_firstError_53 rfl hl (by decide) rfl (fun ls hl => ?_)
          refine lv_iinc (v := x2 + (1 : Int32)) (lv' := [(2, .int (x2 + (1 : Int32))), (1, .int v50.1), (0, .ref (b + o0))]) hx0 hb dX6_firstError_54 hl (k := 2) rfl rfl (by decide) rfl (fun ls hl => ?_)
          refine lv_goto (tgt := 23) hx0 hb dX6_firstError_57 (by decide) ?_
          exact ih v50.1 (x2 + (1 : Int32)) v50.2 h _ _ _ hW hS (lv_sub hl [2, 1, 0] rfl)
def fX6_firstError (o0 : Nat) (σ : Mem) : Option (Int32 × Mem) :=
  (fX7_clear (o0 + 1) σ).bind fun v4 => (fX6_nextToken o0 (up v4 o0 4 (0 : Int32))).bind fun v13 => (fX6_readStatement o0 v13).bind fun v17 => (fX6_firstError_l23 o0 FU v17.1 (0 : Int32) v17.2).bind fun q23 => if q23.1 = 0 then (some (q23.2.2 o0 3, q23.2.2)) else (if (q23.2.2 o0 2) = 0 then (some ((-1 : Int32), q23.2.2)) else (some (q23.2.2 o0 3, q23.2.2)))
set_option maxRecDepth 100000 in
set_option maxHeartbeats 4000000 in
theorem mX6_firstError {l : Launch} {E : Ev} {b : Nat} (o0 : Nat) (ho0 : kd o0 = 6) (σ : Mem) (r : (Int32 × Mem)) (h : fX6_firstError o0 σ = some r) : Met l yX6_firstError (tw yX6_firstError cX6_firstError 3 (some .int)) { frames := 8, cells := 0, slots := 0, locals := 245 } (va_Pc [.ref (b + o0)] (Pr l E (LC E b) σ)) (Qz E (LC E b) (some (.int r.1)) r.2) 0 0 (La (LC E b)) := by
  refine ct_of (by decide) (Nat.le_of_ble_eq_true rfl) ?_
  intro p e s m below meth c C hW hS ls hl
  have hx0 := C.1
  have hb := C.2.1
  have hl : lv_has ls 3 [(0, .ref (b + o0))] := hl
  unfold fX6_firstError at h
  refine lv_aload_n hx0 hb dX6_firstError_0 rfl (lv_at hl 0 rfl) ?_
  refine gtX6_0 (k := o0) C hW ho0 flX6_12 dX6_firstError_1 ?_
  obtain ⟨v4, h4, h⟩ := bnd h
  try dsimp only at h
  refine w_callV (L := (LC E b)) (k := o0 + 1) (As := []) (rest := []) C hW hS (kdlt (chX6_0 ho0) (by decide)) (ccX7 (chX6_0 ho0)) kcX7 (mX7_clear (o0 + 1) (chX6_0 ho0) σ v4 h4) cwX7_clear cvX7_clear rfl mlX6_40 ⟨by decide, by decide⟩ rfl hl.1 (Nat.le_of_ble_eq_true rfl) ⟨by decide, by decide⟩ dX6_firstError_4 rfl (fun H locs hW hS => ?_)
  refine lv_aload_n hx0 hb dX6_firstError_7 rfl (lv_at hl 0 rfl) ?_
  refine lv_iconst (v := (0 : Int32)) hx0 hb dX6_firstError_8 (by decide) ?_
  refine ptX6_4 (k := o0) C hW hS ho0 flX6_34 dX6_firstError_9 (fun H locs hW hS => ?_)
  refine lv_aload_n hx0 hb dX6_firstError_12 rfl (lv_at hl 0 rfl) ?_
  obtain ⟨v13, h13, h⟩ := bnd h
  try dsimp only at h
  refine w_callV (L := (LC E b)) (k := o0) (As := []) (rest := []) C hW hS (kdlt ho0 (by decide)) (ccX6 ho0) kcX6 (mX6_nextToken o0 ho0 (up v4 o0 4 (0 : Int32)) v13 h13) cwX6_nextToken cvX6_nextToken rfl mlX6_43 ⟨by decide, by decide⟩ rfl hl.1 (Nat.le_of_ble_eq_true rfl) ⟨by decide, by decide⟩ dX6_firstError_13 rfl (fun H locs hW hS => ?_)
  refine lv_aload_n hx0 hb dX6_firstError_16 rfl (lv_at hl 0 rfl) ?_
  obtain ⟨v17, h17, h⟩ := bnd h
  try dsimp only at h
  refine w_callV (L := (LC E b)) (k := o0) (As := []) (rest := []) C hW hS (kdlt ho0 (by decide)) (ccX6 ho0) kcX6 (mX6_readStatement o0 ho0 v13 v17 h17) cwX6_readStatement cvX6_readStatement rfl mlX6_46 ⟨by decide, by decide⟩ rfl hl.1 (Nat.le_of_ble_eq_true rfl) ⟨by decide, by decide⟩ dX6_firstError_17 rfl (fun H locs hW hS => ?_)
  refine lv_istore_n (lv' := [(1, .int v17.1), (0, .ref (b + o0))]) hx0 hb dX6_firstError_20 rfl hl (by decide) rfl (fun ls hl => ?_)
  refine lv_iconst (v := (0 : Int32)) hx0 hb dX6_firstError_21 (by decide) ?_
  refine lv_istore_n (lv' := [(2, .int (0 : Int32)), (1, .int v17.1), (0, .ref (b + o0))]) hx0 hb dX6_firstError_22 rfl hl (by decide) rfl (fun ls hl => ?_)
  obtain ⟨q23, h23, h⟩ := bnd h
  try dsimp only at h
  refine bX6_firstError_l23 C o0 ho0 (q := q23) ?_ FU v17.1 (0 : Int32) v17.2 h23 _ _ _ hW hS (lv_sub hl [2, 1, 0] rfl)
  intro H locs ls hW hS hl
  refine lv_iload_n hx0 hb dX6_firstError_60 rfl (lv_at hl 1 rfl) ?_
  refine lv_if_eq (tgt := 75) hx0 hb dX6_firstError_61 (by decide) (fun c61 => ?_) (fun c61 => ?_)
  · rw [if_pos c61] at h
    refine lv_aload_n hx0 hb dX6_firstError_75 rfl (lv_at hl 0 rfl) ?_
    refine gtX6_3 (k := o0) C hW ho0 flX6_31 dX6_firstError_76 ?_
    cases h
    exact w_iret C hW hS dX6_firstError_79
  · rw [if_neg c61] at h
    refine lv_aload_n hx0 hb dX6_firstError_64 rfl (lv_at hl 0 rfl) ?_
    refine gtX6_2 (k := o0) C hW ho0 flX6_27 dX6_firstError_65 ?_
    refine lv_if_ne (tgt := 75) hx0 hb dX6_firstError_68 (by decide) (fun c68 => ?_) (fun c68 => ?_)
    · rw [if_neg c68] at h
      refine lv_aload_n hx0 hb dX6_firstError_75 rfl (lv_at hl 0 rfl) ?_
      refine gtX6_3 (k := o0) C hW ho0 flX6_31 dX6_firstError_76 ?_
      cases h
      exact w_iret C hW hS dX6_firstError_79
    · rw [if_pos c68] at h
      refine lv_iconst (v := (-1 : Int32)) hx0 hb dX6_firstError_71 (by decide) ?_
      refine lv_goto (tgt := 79) hx0 hb dX6_firstError_72 (by decide) ?_
      cases h
      exact w_iret C hW hS dX6_firstError_79
