/-! PageArchive$Text, by program out of the bytecode -/
def fX8_size (o0 : Nat) (σ : Mem) : Option Int32 :=
  some (σ o0 1)
set_option maxRecDepth 100000 in
set_option maxHeartbeats 4000000 in
theorem mX8_size {l : Launch} {E : Ev} {b : Nat} (o0 : Nat) (ho0 : kd o0 = 8) (σ : Mem) (r : Int32) (h : fX8_size o0 σ = some r) : Met l yX8_size (tw yX8_size cX8_size 1 (some .int)) { frames := 0, cells := 0, slots := 0, locals := 0 } (va_Pc [.ref (b + o0)] (Pr l E (LC E b) σ)) (Qz E (LC E b) (some (.int r)) σ) 0 0 (La (LC E b)) := by
  refine ct_of (by decide) (Nat.le_of_ble_eq_true rfl) ?_
  intro p e s m below meth c C hW hS ls hl
  have hx0 := C.1
  have hb := C.2.1
  have hl : lv_has ls 1 [(0, .ref (b + o0))] := hl
  unfold fX8_size at h
  refine lv_aload_n hx0 hb dX8_size_0 rfl (lv_at hl 0 rfl) ?_
  refine gtX8_1 (k := o0) C hW ho0 flX8_9 dX8_size_1 ?_
  cases h
  exact w_iret C hW hS dX8_size_4
def fX8_byteAt (o0 : Nat) (x1 : Int32) (σ : Mem) : Option Int32 :=
  if x1 < 0 then (some (-1 : Int32)) else (if (σ o0 1) ≤ x1 then (some (-1 : Int32)) else (if (Int32.ofNat (ln (o0 + 1))) ≤ x1 then (some (-1 : Int32)) else (if x1 < 0 ∨ ln (o0 + 1) ≤ x1.toNatClampNeg then none else some (σ (o0 + 1) x1.toNatClampNeg))))
set_option maxRecDepth 100000 in
set_option maxHeartbeats 4000000 in
theorem mX8_byteAt {l : Launch} {E : Ev} {b : Nat} (o0 : Nat) (x1 : Int32) (ho0 : kd o0 = 8) (σ : Mem) (r : Int32) (h : fX8_byteAt o0 x1 σ = some r) : Met l yX8_byteAt (tw yX8_byteAt cX8_byteAt 2 (some .int)) { frames := 0, cells := 0, slots := 0, locals := 0 } (va_Pc [.ref (b + o0), .int x1] (Pr l E (LC E b) σ)) (Qz E (LC E b) (some (.int r)) σ) 0 0 (La (LC E b)) := by
  refine ct_of (by decide) (Nat.le_of_ble_eq_true rfl) ?_
  intro p e s m below meth c C hW hS ls hl
  have hx0 := C.1
  have hb := C.2.1
  have hl : lv_has ls 2 [(0, .ref (b + o0)), (1, .int x1)] := hl
  unfold fX8_byteAt at h
  refine lv_iload_n hx0 hb dX8_byteAt_0 rfl (lv_at hl 1 rfl) ?_
  refine lv_if_lt (tgt := 30) hx0 hb dX8_byteAt_1 (by decide) (fun c1 => ?_) (fun c1 => ?_)
  · rw [if_pos c1] at h
    refine lv_iconst (v := (-1 : Int32)) hx0 hb dX8_byteAt_30 (by decide) ?_
    cases h
    exact w_iret C hW hS dX8_byteAt_31
  · rw [if_neg c1] at h
    refine lv_iload_n hx0 hb dX8_byteAt_4 rfl (lv_at hl 1 rfl) ?_
    refine lv_aload_n hx0 hb dX8_byteAt_5 rfl (lv_at hl 0 rfl) ?_
    refine gtX8_1 (k := o0) C hW ho0 flX8_9 dX8_byteAt_6 ?_
    refine lv_icmp_ge (tgt := 30) hx0 hb dX8_byteAt_9 (by decide) (fun c9 => ?_) (fun c9 => ?_)
    · rw [if_pos c9] at h
      refine lv_iconst (v := (-1 : Int32)) hx0 hb dX8_byteAt_30 (by decide) ?_
      cases h
      exact w_iret C hW hS dX8_byteAt_31
    · rw [if_neg c9] at h
      refine lv_iload_n hx0 hb dX8_byteAt_12 rfl (lv_at hl 1 rfl) ?_
      refine lv_aload_n hx0 hb dX8_byteAt_13 rfl (lv_at hl 0 rfl) ?_
      refine gtX8_0 (k := o0) C hW ho0 flX8_15 dX8_byteAt_14 ?_
      refine alA (k := o0 + 1) C hW (chX8_0 ho0) dX8_byteAt_17 ?_
      refine lv_icmp_ge (tgt := 30) hx0 hb dX8_byteAt_18 (by decide) (fun c18 => ?_) (fun c18 => ?_)
      · rw [if_pos c18] at h
        refine lv_iconst (v := (-1 : Int32)) hx0 hb dX8_byteAt_30 (by decide) ?_
        cases h
        exact w_iret C hW hS dX8_byteAt_31
      · rw [if_neg c18] at h
        refine lv_aload_n hx0 hb dX8_byteAt_21 rfl (lv_at hl 0 rfl) ?_
        refine gtX8_0 (k := o0) C hW ho0 flX8_15 dX8_byteAt_22 ?_
        refine lv_iload_n hx0 hb dX8_byteAt_25 rfl (lv_at hl 1 rfl) ?_
        by_cases z26 : x1 < 0 ∨ ln (o0 + 1) ≤ x1.toNatClampNeg
        · rw [if_pos z26] at h; cases h
        rw [if_neg z26] at h
        refine ldA (k := o0 + 1) C hW (chX8_0 ho0) z26 dX8_byteAt_26 ?_
        refine lv_goto (tgt := 31) hx0 hb dX8_byteAt_27 (by decide) ?_
        cases h
        exact w_iret C hW hS dX8_byteAt_31
def fX8_add (o0 : Nat) (x1 : Int32) (σ : Mem) : Option Mem :=
  if (σ o0 1) < 0 then (some σ) else (if (Int32.ofNat (ln (o0 + 1))) ≤ (σ o0 1) then (some σ) else (if (σ o0 1) < 0 ∨ ln (o0 + 1) ≤ (σ o0 1).toNatClampNeg then none else some (up (up σ (o0 + 1) (σ o0 1).toNatClampNeg x1) o0 1 (((up σ (o0 + 1) (σ o0 1).toNatClampNeg x1) o0 1) + (1 : Int32)))))
set_option maxRecDepth 100000 in
set_option maxHeartbeats 4000000 in
theorem mX8_add {l : Launch} {E : Ev} {b : Nat} (o0 : Nat) (x1 : Int32) (ho0 : kd o0 = 8) (σ : Mem) (r : Mem) (h : fX8_add o0 x1 σ = some r) : Met l yX8_add (tw yX8_add cX8_add 2 none) { frames := 0, cells := 0, slots := 0, locals := 0 } (va_Pc [.ref (b + o0), .int x1] (Pr l E (LC E b) σ)) (Qz E (LC E b) none r) 0 0 (La (LC E b)) := by
  refine ct_of (by decide) (Nat.le_of_ble_eq_true rfl) ?_
  intro p e s m below meth c C hW hS ls hl
  have hx0 := C.1
  have hb := C.2.1
  have hl : lv_has ls 2 [(0, .ref (b + o0)), (1, .int x1)] := hl
  unfold fX8_add at h
  refine lv_aload_n hx0 hb dX8_add_0 rfl (lv_at hl 0 rfl) ?_
  refine gtX8_1 (k := o0) C hW ho0 flX8_9 dX8_add_1 ?_
  refine lv_if_lt (tgt := 39) hx0 hb dX8_add_4 (by decide) (fun c4 => ?_) (fun c4 => ?_)
  · rw [if_pos c4] at h
    cases h
    exact w_vret C hW hS dX8_add_39
  · rw [if_neg c4] at h
    refine lv_aload_n hx0 hb dX8_add_7 rfl (lv_at hl 0 rfl) ?_
    refine gtX8_1 (k := o0) C hW ho0 flX8_9 dX8_add_8 ?_
    refine lv_aload_n hx0 hb dX8_add_11 rfl (lv_at hl 0 rfl) ?_
    refine gtX8_0 (k := o0) C hW ho0 flX8_15 dX8_add_12 ?_
    refine alA (k := o0 + 1) C hW (chX8_0 ho0) dX8_add_15 ?_
    refine lv_icmp_ge (tgt := 39) hx0 hb dX8_add_16 (by decide) (fun c16 => ?_) (fun c16 => ?_)
    · rw [if_pos c16] at h
      cases h
      exact w_vret C hW hS dX8_add_39
    · rw [if_neg c16] at h
      refine lv_aload_n hx0 hb dX8_add_19 rfl (lv_at hl 0 rfl) ?_
      refine gtX8_0 (k := o0) C hW ho0 flX8_15 dX8_add_20 ?_
      refine lv_aload_n hx0 hb dX8_add_23 rfl (lv_at hl 0 rfl) ?_
      refine gtX8_1 (k := o0) C hW ho0 flX8_9 dX8_add_24 ?_
      refine lv_iload_n hx0 hb dX8_add_27 rfl (lv_at hl 1 rfl) ?_
      by_cases z28 : (σ o0 1) < 0 ∨ ln (o0 + 1) ≤ (σ o0 1).toNatClampNeg
      · rw [if_pos z28] at h; cases h
      rw [if_neg z28] at h
      refine saA (k := o0 + 1) C hW hS (chX8_0 ho0) z28 dX8_add_28 (fun H locs hW hS => ?_)
      refine lv_aload_n hx0 hb dX8_add_29 rfl (lv_at hl 0 rfl) ?_
      refine lv_dup hx0 hb dX8_add_30 rfl ?_
      refine gtX8_1 (k := o0) C hW ho0 flX8_9 dX8_add_31 ?_
      refine lv_iconst (v := (1 : Int32)) hx0 hb dX8_add_34 (by decide) ?_
      refine lv_iadd hx0 hb dX8_add_35 ?_
      refine ptX8_1 (k := o0) C hW hS ho0 flX8_9 dX8_add_36 (fun H locs hW hS => ?_)
      cases h
      exact w_vret C hW hS dX8_add_39
def fX8_shortenTo (o0 : Nat) (x1 : Int32) (σ : Mem) : Option Mem :=
  if x1 < 0 then (some σ) else (if (σ o0 1) ≤ x1 then (some σ) else (some (up σ o0 1 x1)))
set_option maxRecDepth 100000 in
set_option maxHeartbeats 4000000 in
theorem mX8_shortenTo {l : Launch} {E : Ev} {b : Nat} (o0 : Nat) (x1 : Int32) (ho0 : kd o0 = 8) (σ : Mem) (r : Mem) (h : fX8_shortenTo o0 x1 σ = some r) : Met l yX8_shortenTo (tw yX8_shortenTo cX8_shortenTo 2 none) { frames := 0, cells := 0, slots := 0, locals := 0 } (va_Pc [.ref (b + o0), .int x1] (Pr l E (LC E b) σ)) (Qz E (LC E b) none r) 0 0 (La (LC E b)) := by
  refine ct_of (by decide) (Nat.le_of_ble_eq_true rfl) ?_
  intro p e s m below meth c C hW hS ls hl
  have hx0 := C.1
  have hb := C.2.1
  have hl : lv_has ls 2 [(0, .ref (b + o0)), (1, .int x1)] := hl
  unfold fX8_shortenTo at h
  refine lv_iload_n hx0 hb dX8_shortenTo_0 rfl (lv_at hl 1 rfl) ?_
  refine lv_if_lt (tgt := 17) hx0 hb dX8_shortenTo_1 (by decide) (fun c1 => ?_) (fun c1 => ?_)
  · rw [if_pos c1] at h
    cases h
    exact w_vret C hW hS dX8_shortenTo_17
  · rw [if_neg c1] at h
    refine lv_iload_n hx0 hb dX8_shortenTo_4 rfl (lv_at hl 1 rfl) ?_
    refine lv_aload_n hx0 hb dX8_shortenTo_5 rfl (lv_at hl 0 rfl) ?_
    refine gtX8_1 (k := o0) C hW ho0 flX8_9 dX8_shortenTo_6 ?_
    refine lv_icmp_ge (tgt := 17) hx0 hb dX8_shortenTo_9 (by decide) (fun c9 => ?_) (fun c9 => ?_)
    · rw [if_pos c9] at h
      cases h
      exact w_vret C hW hS dX8_shortenTo_17
    · rw [if_neg c9] at h
      refine lv_aload_n hx0 hb dX8_shortenTo_12 rfl (lv_at hl 0 rfl) ?_
      refine lv_iload_n hx0 hb dX8_shortenTo_13 rfl (lv_at hl 1 rfl) ?_
      refine ptX8_1 (k := o0) C hW hS ho0 flX8_9 dX8_shortenTo_14 (fun H locs hW hS => ?_)
      cases h
      exact w_vret C hW hS dX8_shortenTo_17
def fX8_hasSameBytes_l15 (o0 : Nat) (o1 : Nat) : Nat → Int32 → Mem → Option (Int32 ⊕ (Int32))
  | 0, _, _ => none
  | n + 1, x2, σ => if (σ o0 1) ≤ x2 then (some (.inr x2)) else ((fX8_byteAt o0 x2 σ).bind fun v25 => (fX8_byteAt o1 x2 σ).bind fun v30 => if v25 = v30 then (fX8_hasSameBytes_l15 o0 o1 n (x2 + (1 : Int32)) σ) else (some (.inl (0 : Int32))))
set_option maxRecDepth 100000 in
set_option maxHeartbeats 4000000 in
theorem bX8_hasSameBytes_l15 {p : Program} {l : Launch} {e : Env} {s : State} {m : MethodId} {args : Array Value} {below : List Frame} {meth : Method} {c : Code} {E : Ev} {b : Nat} (C : Cx p l s m args meth c E cX8_hasSameBytes 3 RX8 (some .boolean)) (o0 : Nat) (o1 : Nat) (ho0 : kd o0 = 8) (ho1 : kd o1 = 8) (σ : Mem) (r0 : Int32) {q0 : Int32 ⊕ (Int32)} (hr : ∀ r, q0 = .inl r → r = r0) (hx : ∀ q, q0 = .inr q → ∀ H locs ls, Wd E (LC E b) σ H → va_S (La (LC E b)) s.heap H locs → lv_has ls 3 [(0, .ref (b + o0)), (1, .ref (b + o1)), (2, .int q)] → W p l e { frames := 1, cells := 0, slots := 0, locals := 21 } s m args below meth c H locs 0 0 (MQ below (Qz E (LC E b) (some (.int r0)) σ) args s 0 0 (La (LC E b))) (F0 m 44 ls [])) : ∀ (n : Nat) (x2 : Int32), fX8_hasSameBytes_l15 o0 o1 n x2 σ = some q0 → ∀ (H : Heap) (locs : List Loc) (ls : Array Slot), Wd E (LC E b) σ H → va_S (La (LC E b)) s.heap H locs → lv_has ls 3 [(0, .ref (b + o0)), (1, .ref (b + o1)), (2, .int x2)] → W p l e { frames := 1, cells := 0, slots := 0, locals := 21 } s m args below meth c H locs 0 0 (MQ below (Qz E (LC E b) (some (.int r0)) σ) args s 0 0 (La (LC E b))) (F0 m 15 ls []) := by
  have hx0 := C.1
  have hb := C.2.1
  intro n
  induction n with
  | zero => intro x2 h; simp [fX8_hasSameBytes_l15] at h
  | succ n ih =>
    intro x2 h H locs ls hW hS hl
    unfold fX8_hasSameBytes_l15 at h
    refine lv_iload_n hx0 hb dX8_hasSameBytes_15 rfl (lv_at hl 2 rfl) ?_
    refine lv_aload_n hx0 hb dX8_hasSameBytes_16 rfl (lv_at hl 0 rfl) ?_
    refine gtX8_1 (k := o0) C hW ho0 flX8_9 dX8_hasSameBytes_17 ?_
    refine lv_icmp_ge (tgt := 44) hx0 hb dX8_hasSameBytes_20 (by decide) (fun c20 => ?_) (fun c20 => ?_)
    · rw [if_pos c20] at h
      cases h
      exact hx _ rfl _ _ _ hW hS (lv_sub hl [0, 1, 2] rfl)
    · rw [if_neg c20] at h
      refine lv_aload_n hx0 hb dX8_hasSameBytes_23 rfl (lv_at hl 0 rfl) ?_
      refine lv_iload_n hx0 hb dX8_hasSameBytes_24 rfl (lv_at hl 2 rfl) ?_
      obtain ⟨v25, h25, h⟩ := bnd h
      try dsimp only at h
      refine w_callV (L := (LC E b)) (k := o0) (As := [.int x2]) (rest := []) C hW hS (kdlt ho0 (by decide)) (ccX8 ho0) kcX8 (mX8_byteAt o0 x2 ho0 σ v25 h25) cwX8_byteAt cvX8_byteAt rfl mlX8_19 ⟨by decide, by decide⟩ rfl hl.1 (Nat.le_of_ble_eq_true rfl) ⟨by decide, by decide⟩ dX8_hasSameBytes_25 rfl (fun H locs hW hS => ?_)
      refine lv_aload_n hx0 hb dX8_hasSameBytes_28 rfl (lv_at hl 1 rfl) ?_
      refine lv_iload_n hx0 hb dX8_hasSameBytes_29 rfl (lv_at hl 2 rfl) ?_
      obtain ⟨v30, h30, h⟩ := bnd h
      try dsimp only at h
      refine w_callV (L := (LC E b)) (k := o1) (As := [.int x2]) (rest := [.int v25]) C hW hS (kdlt ho1 (by decide)) (ccX8 ho1) kcX8 (mX8_byteAt o1 x2 ho1 σ v30 h30) cwX8_byteAt cvX8_byteAt rfl mlX8_19 ⟨by decide, by decide⟩ rfl hl.1 (Nat.le_of_ble_eq_true rfl) ⟨by decide, by decide⟩ dX8_hasSameBytes_30 rfl (fun H locs hW hS => ?_)
      refine lv_icmp_eq (tgt := 38) hx0 hb dX8_hasSameBytes_33 (by decide) (fun c33 => ?_) (fun c33 => ?_)
      · rw [if_pos c33] at h
        refine lv_iinc (v := x2 + (1 : Int32)) (lv' := [(2, .int (x2 + (1 : Int32))), (0, .ref (b + o0)), (1, .ref (b + o1))]) hx0 hb dX8_hasSameBytes_38 hl (k := 2) rfl rfl (by decide) rfl (fun ls hl => ?_)
        refine lv_goto (tgt := 15) hx0 hb dX8_hasSameBytes_41 (by decide) ?_
        exact ih (x2 + (1 : Int32)) h _ _ _ hW hS (lv_sub hl [1, 2, 0] rfl)
      · rw [if_neg c33] at h
        refine lv_iconst (v := (0 : Int32)) hx0 hb dX8_hasSameBytes_36 (by decide) ?_
        cases h
        cases hr _ rfl
        exact w_zret C hW hS (Or.inl rfl) dX8_hasSameBytes_37
def fX8_hasSameBytes (o0 : Nat) (o1 : Nat) (σ : Mem) : Option Int32 :=
  if (σ o0 1) = (σ o1 1) then ((fX8_hasSameBytes_l15 o0 o1 FU (0 : Int32) σ).bind fun q15 => match q15 with | .inl r => some r | .inr q15 => some (1 : Int32)) else (some (0 : Int32))
set_option maxRecDepth 100000 in
set_option maxHeartbeats 4000000 in
theorem mX8_hasSameBytes {l : Launch} {E : Ev} {b : Nat} (o0 : Nat) (o1 : Nat) (ho0 : kd o0 = 8) (ho1 : kd o1 = 8) (σ : Mem) (r : Int32) (h : fX8_hasSameBytes o0 o1 σ = some r) : Met l yX8_hasSameBytes (tw yX8_hasSameBytes cX8_hasSameBytes 3 (some .boolean)) { frames := 1, cells := 0, slots := 0, locals := 21 } (va_Pc [.ref (b + o0), .ref (b + o1)] (Pr l E (LC E b) σ)) (Qz E (LC E b) (some (.int r)) σ) 0 0 (La (LC E b)) := by
  refine ct_of (by decide) (Nat.le_of_ble_eq_true rfl) ?_
  intro p e s m below meth c C hW hS ls hl
  have hx0 := C.1
  have hb := C.2.1
  have hl : lv_has ls 3 [(0, .ref (b + o0)), (1, .ref (b + o1))] := hl
  unfold fX8_hasSameBytes at h
  refine lv_aload_n hx0 hb dX8_hasSameBytes_0 rfl (lv_at hl 0 rfl) ?_
  refine gtX8_1 (k := o0) C hW ho0 flX8_9 dX8_hasSameBytes_1 ?_
  refine lv_aload_n hx0 hb dX8_hasSameBytes_4 rfl (lv_at hl 1 rfl) ?_
  refine gtX8_1 (k := o1) C hW ho1 flX8_9 dX8_hasSameBytes_5 ?_
  refine lv_icmp_eq (tgt := 13) hx0 hb dX8_hasSameBytes_8 (by decide) (fun c8 => ?_) (fun c8 => ?_)
  · rw [if_pos c8] at h
    refine lv_iconst (v := (0 : Int32)) hx0 hb dX8_hasSameBytes_13 (by decide) ?_
    refine lv_istore_n (lv' := [(2, .int (0 : Int32)), (0, .ref (b + o0)), (1, .ref (b + o1))]) hx0 hb dX8_hasSameBytes_14 rfl hl (by decide) rfl (fun ls hl => ?_)
    obtain ⟨q15, h15, h⟩ := bnd h
    refine bX8_hasSameBytes_l15 C o0 o1 ho0 ho1 σ r (q0 := q15) ?_ ?_ FU (0 : Int32) h15 _ _ _ hW hS (lv_sub hl [1, 2, 0] rfl)
    · intro r1 hq; subst hq; (try dsimp only at h); exact Option.some.inj h
    · intro q15 hq H locs ls hW hS hl
      subst hq; try dsimp only at h
      refine lv_iconst (v := (1 : Int32)) hx0 hb dX8_hasSameBytes_44 (by decide) ?_
      cases h
      exact w_zret C hW hS (Or.inr rfl) dX8_hasSameBytes_45
  · rw [if_neg c8] at h
    refine lv_iconst (v := (0 : Int32)) hx0 hb dX8_hasSameBytes_11 (by decide) ?_
    cases h
    exact w_zret C hW hS (Or.inl rfl) dX8_hasSameBytes_12
def fX8_addDecimal_l4 (o0 : Nat) (x1 : Int32) : Nat → Int32 → Mem → Option (Int32 × Mem)
  | 0, _, _ => none
  | n + 1, x2, σ => if x2 ≤ 0 then (some (x2, σ)) else (if x1 < x2 then (fX8_addDecimal_l4 o0 x1 n (x2 / (10 : Int32)) σ) else (if x2 = 0 then none else (fX8_add o0 ((48 : Int32) + ((x1 / x2) - (x1 / x2) / (10 : Int32) * (10 : Int32))) σ).bind fun v23 => fX8_addDecimal_l4 o0 x1 n (x2 / (10 : Int32)) v23))
set_option maxRecDepth 100000 in
set_option maxHeartbeats 4000000 in
theorem bX8_addDecimal_l4 {p : Program} {l : Launch} {e : Env} {s : State} {m : MethodId} {args : Array Value} {below : List Frame} {meth : Method} {c : Code} {E : Ev} {b : Nat} (C : Cx p l s m args meth c E cX8_addDecimal 3 RX8 none) (o0 : Nat) (x1 : Int32) (ho0 : kd o0 = 8) {Qf : State → Prop} {q : Int32 × Mem} (hx : ∀ H locs ls, Wd E (LC E b) q.2 H → va_S (La (LC E b)) s.heap H locs → lv_has ls 3 [(0, .ref (b + o0)), (1, .int x1), (2, .int q.1)] → W p l e { frames := 1, cells := 0, slots := 0, locals := 21 } s m args below meth c H locs 0 0 Qf (F0 m 34 ls [])) : ∀ (n : Nat) (x2 : Int32) (σ : Mem), fX8_addDecimal_l4 o0 x1 n x2 σ = some q → ∀ (H : Heap) (locs : List Loc) (ls : Array Slot), Wd E (LC E b) σ H → va_S (La (LC E b)) s.heap H locs → lv_has ls 3 [(0, .ref (b + o0)), (1, .int x1), (2, .int x2)] → W p l e { frames := 1, cells := 0, slots := 0, locals := 21 } s m args below meth c H locs 0 0 Qf (F0 m 4 ls []) := by
  have hx0 := C.1
  have hb := C.2.1
  intro n
  induction n with
  | zero => intro x2 σ h; simp [fX8_addDecimal_l4] at h
  | succ n ih =>
    intro x2 σ h H locs ls hW hS hl
    unfold fX8_addDecimal_l4 at h
    refine lv_iload_n hx0 hb dX8_addDecimal_4 rfl (lv_at hl 2 rfl) ?_
    refine lv_if_le (tgt := 34) hx0 hb dX8_addDecimal_5 (by decide) (fun c5 => ?_) (fun c5 => ?_)
    · rw [if_pos c5] at h
      cases h
      exact hx _ _ _ hW hS (lv_sub hl [0, 1, 2] rfl)
    · rw [if_neg c5] at h
      refine lv_iload_n hx0 hb dX8_addDecimal_8 rfl (lv_at hl 1 rfl) ?_
      refine lv_iload_n hx0 hb dX8_addDecimal_9 rfl (lv_at hl 2 rfl) ?_
      refine lv_icmp_lt (tgt := 26) hx0 hb dX8_addDecimal_10 (by decide) (fun c10 => ?_) (fun c10 => ?_)
      · rw [if_pos c10] at h
        refine lv_iload_n hx0 hb dX8_addDecimal_26 rfl (lv_at hl 2 rfl) ?_
        refine lv_bipush (v := (10 : Int32)) hx0 hb dX8_addDecimal_27 (by decide) ?_
        refine lv_idiv hx0 hb dX8_addDecimal_29 (by decide) ?_
        refine lv_istore_n (lv' := [(2, .int (x2 / (10 : Int32))), (0, .ref (b + o0)), (1, .int x1)]) hx0 hb dX8_addDecimal_30 rfl hl (by decide) rfl (fun ls hl => ?_)
        refine lv_goto (tgt := 4) hx0 hb dX8_addDecimal_31 (by decide) ?_
        exact ih (x2 / (10 : Int32)) σ h _ _ _ hW hS (lv_sub hl [1, 2, 0] rfl)
      · rw [if_neg c10] at h
        refine lv_aload_n hx0 hb dX8_addDecimal_13 rfl (lv_at hl 0 rfl) ?_
        refine lv_bipush (v := (48 : Int32)) hx0 hb dX8_addDecimal_14 (by decide) ?_
        refine lv_iload_n hx0 hb dX8_addDecimal_16 rfl (lv_at hl 1 rfl) ?_
        refine lv_iload_n hx0 hb dX8_addDecimal_17 rfl (lv_at hl 2 rfl) ?_
        by_cases z18 : x2 = 0
        · rw [if_pos z18] at h; cases h
        rw [if_neg z18] at h
        refine lv_idiv hx0 hb dX8_addDecimal_18 z18 ?_
        refine lv_bipush (v := (10 : Int32)) hx0 hb dX8_addDecimal_19 (by decide) ?_
        refine lv_irem hx0 hb dX8_addDecimal_21 (by decide) ?_
        refine lv_iadd hx0 hb dX8_addDecimal_22 ?_
        obtain ⟨v23, h23, h⟩ := bnd h
        try dsimp only at h
        refine w_callV (L := (LC E b)) (k := o0) (As := [.int ((48 : Int32) + ((x1 / x2) - (x1 / x2) / (10 : Int32) * (10 : Int32)))]) (rest := []) C hW hS (kdlt ho0 (by decide)) (ccX8 ho0) kcX8 (mX8_add o0 ((48 : Int32) + ((x1 / x2) - (x1 / x2) / (10 : Int32) * (10 : Int32))) ho0 σ v23 h23) cwX8_add cvX8_add rfl mlX8_23 ⟨by decide, by decide⟩ rfl hl.1 (Nat.le_of_ble_eq_true rfl) ⟨by decide, by decide⟩ dX8_addDecimal_23 rfl (fun H locs hW hS => ?_)
        refine lv_iload_n hx0 hb dX8_addDecimal_26 rfl (lv_at hl 2 rfl) ?_
        refine lv_bipush (v := (10 : Int32)) hx0 hb dX8_addDecimal_27 (by decide) ?_
        refine lv_idiv hx0 hb dX8_addDecimal_29 (by decide) ?_
        refine lv_istore_n (lv' := [(2, .int (x2 / (10 : Int32))), (0, .ref (b + o0)), (1, .int x1)]) hx0 hb dX8_addDecimal_30 rfl hl (by decide) rfl (fun ls hl => ?_)
        refine lv_goto (tgt := 4) hx0 hb dX8_addDecimal_31 (by decide) ?_
        exact ih (x2 / (10 : Int32)) v23 h _ _ _ hW hS (lv_sub hl [1, 2, 0] rfl)
def fX8_addDecimal (o0 : Nat) (x1 : Int32) (σ : Mem) : Option Mem :=
  (fX8_addDecimal_l4 o0 x1 FU (1000 : Int32) σ).bind fun q4 => some q4.2
set_option maxRecDepth 100000 in
set_option maxHeartbeats 4000000 in
theorem mX8_addDecimal {l : Launch} {E : Ev} {b : Nat} (o0 : Nat) (x1 : Int32) (ho0 : kd o0 = 8) (σ : Mem) (r : Mem) (h : fX8_addDecimal o0 x1 σ = some r) : Met l yX8_addDecimal (tw yX8_addDecimal cX8_addDecimal 3 none) { frames := 1, cells := 0, slots := 0, locals := 21 } (va_Pc [.ref (b + o0), .int x1] (Pr l E (LC E b) σ)) (Qz E (LC E b) none r) 0 0 (La (LC E b)) := by
  refine ct_of (by decide) (Nat.le_of_ble_eq_true rfl) ?_
  intro p e s m below meth c C hW hS ls hl
  have hx0 := C.1
  have hb := C.2.1
  have hl : lv_has ls 3 [(0, .ref (b + o0)), (1, .int x1)] := hl
  unfold fX8_addDecimal at h
  refine lv_sipush (v := (1000 : Int32)) hx0 hb dX8_addDecimal_0 (by decide) ?_
  refine lv_istore_n (lv' := [(2, .int (1000 : Int32)), (0, .ref (b + o0)), (1, .int x1)]) hx0 hb dX8_addDecimal_3 rfl hl (by decide) rfl (fun ls hl => ?_)
  obtain ⟨q4, h4, h⟩ := bnd h
  try dsimp only at h
  refine bX8_addDecimal_l4 C o0 x1 ho0 (q := q4) ?_ FU (1000 : Int32) σ h4 _ _ _ hW hS (lv_sub hl [1, 2, 0] rfl)
  intro H locs ls hW hS hl
  cases h
  exact w_vret C hW hS dX8_addDecimal_34
def fX8_addRomanDigit_l51 (o0 : Nat) (x1 : Int32) (x2 : Int32) : Nat → Int32 → Mem → Option (Int32 × Mem)
  | 0, _, _ => none
  | n + 1, x5, σ => if (x1 - x1 / (5 : Int32) * (5 : Int32)) ≤ x5 then (some (x5, σ)) else ((fX8_add o0 x2 σ).bind fun v61 => fX8_addRomanDigit_l51 o0 x1 x2 n (x5 + (1 : Int32)) v61)
set_option maxRecDepth 100000 in
set_option maxHeartbeats 4000000 in
theorem bX8_addRomanDigit_l51 {p : Program} {l : Launch} {e : Env} {s : State} {m : MethodId} {args : Array Value} {below : List Frame} {meth : Method} {c : Code} {E : Ev} {b : Nat} (C : Cx p l s m args meth c E cX8_addRomanDigit 6 RX8 none) (o0 : Nat) (x1 : Int32) (x2 : Int32) (ho0 : kd o0 = 8) {Qf : State → Prop} {q : Int32 × Mem} (hx : ∀ H locs ls, Wd E (LC E b) q.2 H → va_S (La (LC E b)) s.heap H locs → lv_has ls 6 [(0, .ref (b + o0)), (1, .int x1), (2, .int x2), (5, .int q.1)] → W p l e { frames := 1, cells := 0, slots := 0, locals := 21 } s m args below meth c H locs 0 0 Qf (F0 m 70 ls [])) : ∀ (n : Nat) (x5 : Int32) (σ : Mem), fX8_addRomanDigit_l51 o0 x1 x2 n x5 σ = some q → ∀ (H : Heap) (locs : List Loc) (ls : Array Slot), Wd E (LC E b) σ H → va_S (La (LC E b)) s.heap H locs → lv_has ls 6 [(0, .ref (b + o0)), (1, .int x1), (2, .int x2), (5, .int x5)] → W p l e { frames := 1, cells := 0, slots := 0, locals := 21 } s m args below meth c H locs 0 0 Qf (F0 m 51 ls []) := by
  have hx0 := C.1
  have hb := C.2.1
  intro n
  induction n with
  | zero => intro x5 σ h; simp [fX8_addRomanDigit_l51] at h
  | succ n ih =>
    intro x5 σ h H locs ls hW hS hl
    unfold fX8_addRomanDigit_l51 at h
    refine lv_iload hx0 hb dX8_addRomanDigit_51 (lv_at hl 3 rfl) ?_
    refine lv_iload_n hx0 hb dX8_addRomanDigit_53 rfl (lv_at hl 1 rfl) ?_
    refine lv_iconst (v := (5 : Int32)) hx0 hb dX8_addRomanDigit_54 (by decide) ?_
    refine lv_irem hx0 hb dX8_addRomanDigit_55 (by decide) ?_
    refine lv_icmp_ge (tgt := 70) hx0 hb dX8_addRomanDigit_56 (by decide) (fun c56 => ?_) (fun c56 => ?_)
    · rw [if_pos c56] at h
      cases h
      exact hx _ _ _ hW hS (lv_sub hl [0, 1, 2, 3] rfl)
    · rw [if_neg c56] at h
      refine lv_aload_n hx0 hb dX8_addRomanDigit_59 rfl (lv_at hl 0 rfl) ?_
      refine lv_iload_n hx0 hb dX8_addRomanDigit_60 rfl (lv_at hl 2 rfl) ?_
      obtain ⟨v61, h61, h⟩ := bnd h
      try dsimp only at h
      refine w_callV (L := (LC E b)) (k := o0) (As := [.int x2]) (rest := []) C hW hS (kdlt ho0 (by decide)) (ccX8 ho0) kcX8 (mX8_add o0 x2 ho0 σ v61 h61) cwX8_add cvX8_add rfl mlX8_23 ⟨by decide, by decide⟩ rfl hl.1 (Nat.le_of_ble_eq_true rfl) ⟨by decide, by decide⟩ dX8_addRomanDigit_61 rfl (fun H locs hW hS => ?_)
      refine lv_iinc (v := x5 + (1 : Int32)) (lv' := [(5, .int (x5 + (1 : Int32))), (0, .ref (b + o0)), (1, .int x1), (2, .int x2)]) hx0 hb dX8_addRomanDigit_64 hl (k := 3) rfl rfl (by decide) rfl (fun ls hl => ?_)
      refine lv_goto (tgt := 51) hx0 hb dX8_addRomanDigit_67 (by decide) ?_
      exact ih (x5 + (1 : Int32)) v61 h _ _ _ hW hS (lv_sub hl [1, 2, 3, 0] rfl)
def fX8_addRomanDigit (o0 : Nat) (x1 : Int32) (x2 : Int32) (x3 : Int32) (x4 : Int32) (σ : Mem) : Option Mem :=
  if x1 = (9 : Int32) then ((fX8_add o0 x2 σ).bind fun v8 => (fX8_add o0 x4 v8).bind fun v14 => some v14) else (if x1 = (4 : Int32) then ((fX8_add o0 x2 σ).bind fun v27 => (fX8_add o0 x3 v27).bind fun v32 => some v32) else (if x1 < (5 : Int32) then ((fX8_addRomanDigit_l51 o0 x1 x2 FU (0 : Int32) σ).bind fun q51 => some q51.2) else ((fX8_add o0 x3 σ).bind fun v45 => (fX8_addRomanDigit_l51 o0 x1 x2 FU (0 : Int32) v45).bind fun q51 => some q51.2)))
set_option maxRecDepth 100000 in
set_option maxHeartbeats 4000000 in
theorem mX8_addRomanDigit {l : Launch} {E : Ev} {b : Nat} (o0 : Nat) (x1 : Int32) (x2 : Int32) (x3 : Int32) (x4 : Int32) (ho0 : kd o0 = 8) (σ : Mem) (r : Mem) (h : fX8_addRomanDigit o0 x1 x2 x3 x4 σ = some r) : Met l yX8_addRomanDigit (tw yX8_addRomanDigit cX8_addRomanDigit 6 none) { frames := 1, cells := 0, slots := 0, locals := 21 } (va_Pc [.ref (b + o0), .int x1, .int x2, .int x3, .int x4] (Pr l E (LC E b) σ)) (Qz E (LC E b) none r) 0 0 (La (LC E b)) := by
  refine ct_of (by decide) (Nat.le_of_ble_eq_true rfl) ?_
  intro p e s m below meth c C hW hS ls hl
  have hx0 := C.1
  have hb := C.2.1
  have hl : lv_has ls 6 [(0, .ref (b + o0)), (1, .int x1), (2, .int x2), (3, .int x3), (4, .int x4)] := hl
  unfold fX8_addRomanDigit at h
  refine lv_iload_n hx0 hb dX8_addRomanDigit_0 rfl (lv_at hl 1 rfl) ?_
  refine lv_bipush (v := (9 : Int32)) hx0 hb dX8_addRomanDigit_1 (by decide) ?_
  refine lv_icmp_ne (tgt := 20) hx0 hb dX8_addRomanDigit_3 (by decide) (fun c3 => ?_) (fun c3 => ?_)
  · rw [if_neg c3] at h
    refine lv_iload_n hx0 hb dX8_addRomanDigit_20 rfl (lv_at hl 1 rfl) ?_
    refine lv_iconst (v := (4 : Int32)) hx0 hb dX8_addRomanDigit_21 (by decide) ?_
    refine lv_icmp_ne (tgt := 38) hx0 hb dX8_addRomanDigit_22 (by decide) (fun c22 => ?_) (fun c22 => ?_)
    · rw [if_neg c22] at h
      refine lv_iload_n hx0 hb dX8_addRomanDigit_38 rfl (lv_at hl 1 rfl) ?_
      refine lv_iconst (v := (5 : Int32)) hx0 hb dX8_addRomanDigit_39 (by decide) ?_
      refine lv_icmp_lt (tgt := 48) hx0 hb dX8_addRomanDigit_40 (by decide) (fun c40 => ?_) (fun c40 => ?_)
      · rw [if_pos c40] at h
        refine lv_iconst (v := (0 : Int32)) hx0 hb dX8_addRomanDigit_48 (by decide) ?_
        refine lv_istore (lv' := [(5, .int (0 : Int32)), (0, .ref (b + o0)), (1, .int x1), (2, .int x2), (3, .int x3), (4, .int x4)]) hx0 hb dX8_addRomanDigit_49 hl (by decide) rfl (fun ls hl => ?_)
        obtain ⟨q51, h51, h⟩ := bnd h
        try dsimp only at h
        refine bX8_addRomanDigit_l51 C o0 x1 x2 ho0 (q := q51) ?_ FU (0 : Int32) σ h51 _ _ _ hW hS (lv_sub hl [1, 2, 3, 0] rfl)
        intro H locs ls hW hS hl
        cases h
        exact w_vret C hW hS dX8_addRomanDigit_70
      · rw [if_neg c40] at h
        refine lv_aload_n hx0 hb dX8_addRomanDigit_43 rfl (lv_at hl 0 rfl) ?_
        refine lv_iload_n hx0 hb dX8_addRomanDigit_44 rfl (lv_at hl 3 rfl) ?_
        obtain ⟨v45, h45, h⟩ := bnd h
        try dsimp only at h
        refine w_callV (L := (LC E b)) (k := o0) (As := [.int x3]) (rest := []) C hW hS (kdlt ho0 (by decide)) (ccX8 ho0) kcX8 (mX8_add o0 x3 ho0 σ v45 h45) cwX8_add cvX8_add rfl mlX8_23 ⟨by decide, by decide⟩ rfl hl.1 (Nat.le_of_ble_eq_true rfl) ⟨by decide, by decide⟩ dX8_addRomanDigit_45 rfl (fun H locs hW hS => ?_)
        refine lv_iconst (v := (0 : Int32)) hx0 hb dX8_addRomanDigit_48 (by decide) ?_
        refine lv_istore (lv' := [(5, .int (0 : Int32)), (0, .ref (b + o0)), (1, .int x1), (2, .int x2), (3, .int x3), (4, .int x4)]) hx0 hb dX8_addRomanDigit_49 hl (by decide) rfl (fun ls hl => ?_)
        obtain ⟨q51, h51, h⟩ := bnd h
        try dsimp only at h
        refine bX8_addRomanDigit_l51 C o0 x1 x2 ho0 (q := q51) ?_ FU (0 : Int32) v45 h51 _ _ _ hW hS (lv_sub hl [1, 2, 3, 0] rfl)
        intro H locs ls hW hS hl
        cases h
        exact w_vret C hW hS dX8_addRomanDigit_70
    · rw [if_pos c22] at h
      refine lv_aload_n hx0 hb dX8_addRomanDigit_25 rfl (lv_at hl 0 rfl) ?_
      refine lv_iload_n hx0 hb dX8_addRomanDigit_26 rfl (lv_at hl 2 rfl) ?_
      obtain ⟨v27, h27, h⟩ := bnd h
      try dsimp only at h
      refine w_callV (L := (LC E b)) (k := o0) (As := [.int x2]) (rest := []) C hW hS (kdlt ho0 (by decide)) (ccX8 ho0) kcX8 (mX8_add o0 x2 ho0 σ v27 h27) cwX8_add cvX8_add rfl mlX8_23 ⟨by decide, by decide⟩ rfl hl.1 (Nat.le_of_ble_eq_true rfl) ⟨by decide, by decide⟩ dX8_addRomanDigit_27 rfl (fun H locs hW hS => ?_)
      refine lv_aload_n hx0 hb dX8_addRomanDigit_30 rfl (lv_at hl 0 rfl) ?_
      refine lv_iload_n hx0 hb dX8_addRomanDigit_31 rfl (lv_at hl 3 rfl) ?_
      obtain ⟨v32, h32, h⟩ := bnd h
      try dsimp only at h
      refine w_callV (L := (LC E b)) (k := o0) (As := [.int x3]) (rest := []) C hW hS (kdlt ho0 (by decide)) (ccX8 ho0) kcX8 (mX8_add o0 x3 ho0 v27 v32 h32) cwX8_add cvX8_add rfl mlX8_23 ⟨by decide, by decide⟩ rfl hl.1 (Nat.le_of_ble_eq_true rfl) ⟨by decide, by decide⟩ dX8_addRomanDigit_32 rfl (fun H locs hW hS => ?_)
      refine lv_goto (tgt := 70) hx0 hb dX8_addRomanDigit_35 (by decide) ?_
      cases h
      exact w_vret C hW hS dX8_addRomanDigit_70
  · rw [if_pos c3] at h
    refine lv_aload_n hx0 hb dX8_addRomanDigit_6 rfl (lv_at hl 0 rfl) ?_
    refine lv_iload_n hx0 hb dX8_addRomanDigit_7 rfl (lv_at hl 2 rfl) ?_
    obtain ⟨v8, h8, h⟩ := bnd h
    try dsimp only at h
    refine w_callV (L := (LC E b)) (k := o0) (As := [.int x2]) (rest := []) C hW hS (kdlt ho0 (by decide)) (ccX8 ho0) kcX8 (mX8_add o0 x2 ho0 σ v8 h8) cwX8_add cvX8_add rfl mlX8_23 ⟨by decide, by decide⟩ rfl hl.1 (Nat.le_of_ble_eq_true rfl) ⟨by decide, by decide⟩ dX8_addRomanDigit_8 rfl (fun H locs hW hS => ?_)
    refine lv_aload_n hx0 hb dX8_addRomanDigit_11 rfl (lv_at hl 0 rfl) ?_
    refine lv_iload hx0 hb dX8_addRomanDigit_12 (lv_at hl 4 rfl) ?_
    obtain ⟨v14, h14, h⟩ := bnd h
    try dsimp only at h
    refine w_callV (L := (LC E b)) (k := o0) (As := [.int x4]) (rest := []) C hW hS (kdlt ho0 (by decide)) (ccX8 ho0) kcX8 (mX8_add o0 x4 ho0 v8 v14 h14) cwX8_add cvX8_add rfl mlX8_23 ⟨by decide, by decide⟩ rfl hl.1 (Nat.le_of_ble_eq_true rfl) ⟨by decide, by decide⟩ dX8_addRomanDigit_14 rfl (fun H locs hW hS => ?_)
    refine lv_goto (tgt := 70) hx0 hb dX8_addRomanDigit_17 (by decide) ?_
    cases h
    exact w_vret C hW hS dX8_addRomanDigit_70
def fX8_addRoman_l2 (o0 : Nat) (x1 : Int32) : Nat → Int32 → Mem → Option (Int32 × Mem)
  | 0, _, _ => none
  | n + 1, x2, σ => if (x1 / (1000 : Int32)) ≤ x2 then (some (x2, σ)) else ((fX8_add o0 (109 : Int32) σ).bind fun v14 => fX8_addRoman_l2 o0 x1 n (x2 + (1 : Int32)) v14)
set_option maxRecDepth 100000 in
set_option maxHeartbeats 4000000 in
theorem bX8_addRoman_l2 {p : Program} {l : Launch} {e : Env} {s : State} {m : MethodId} {args : Array Value} {below : List Frame} {meth : Method} {c : Code} {E : Ev} {b : Nat} (C : Cx p l s m args meth c E cX8_addRoman 3 RX8 none) (o0 : Nat) (x1 : Int32) (ho0 : kd o0 = 8) {Qf : State → Prop} {q : Int32 × Mem} (hx : ∀ H locs ls, Wd E (LC E b) q.2 H → va_S (La (LC E b)) s.heap H locs → lv_has ls 3 [(0, .ref (b + o0)), (1, .int x1), (2, .int q.1)] → W p l e { frames := 2, cells := 0, slots := 0, locals := 46 } s m args below meth c H locs 0 0 Qf (F0 m 23 ls [])) : ∀ (n : Nat) (x2 : Int32) (σ : Mem), fX8_addRoman_l2 o0 x1 n x2 σ = some q → ∀ (H : Heap) (locs : List Loc) (ls : Array Slot), Wd E (LC E b) σ H → va_S (La (LC E b)) s.heap H locs → lv_has ls 3 [(0, .ref (b + o0)), (1, .int x1), (2, .int x2)] → W p l e { frames := 2, cells := 0, slots := 0, locals := 46 } s m args below meth c H locs 0 0 Qf (F0 m 2 ls []) := by
  have hx0 := C.1
  have hb := C.2.1
  intro n
  induction n with
  | zero => intro x2 σ h; simp [fX8_addRoman_l2] at h
  | succ n ih =>
    intro x2 σ h H locs ls hW hS hl
    unfold fX8_addRoman_l2 at h
    refine lv_iload_n hx0 hb dX8_addRoman_2 rfl (lv_at hl 2 rfl) ?_
    refine lv_iload_n hx0 hb dX8_addRoman_3 rfl (lv_at hl 1 rfl) ?_
    refine lv_sipush (v := (1000 : Int32)) hx0 hb dX8_addRoman_4 (by decide) ?_
    refine lv_idiv hx0 hb dX8_addRoman_7 (by decide) ?_
    refine lv_icmp_ge (tgt := 23) hx0 hb dX8_addRoman_8 (by decide) (fun c8 => ?_) (fun c8 => ?_)
    · rw [if_pos c8] at h
      cases h
      exact hx _ _ _ hW hS (lv_sub hl [0, 1, 2] rfl)
    · rw [if_neg c8] at h
      refine lv_aload_n hx0 hb dX8_addRoman_11 rfl (lv_at hl 0 rfl) ?_
      refine lv_bipush (v := (109 : Int32)) hx0 hb dX8_addRoman_12 (by decide) ?_
      obtain ⟨v14, h14, h⟩ := bnd h
      try dsimp only at h
      refine w_callV (L := (LC E b)) (k := o0) (As := [.int (109 : Int32)]) (rest := []) C hW hS (kdlt ho0 (by decide)) (ccX8 ho0) kcX8 (mX8_add o0 (109 : Int32) ho0 σ v14 h14) cwX8_add cvX8_add rfl mlX8_23 ⟨by decide, by decide⟩ rfl hl.1 (Nat.le_of_ble_eq_true rfl) ⟨by decide, by decide⟩ dX8_addRoman_14 rfl (fun H locs hW hS => ?_)
      refine lv_iinc (v := x2 + (1 : Int32)) (lv' := [(2, .int (x2 + (1 : Int32))), (0, .ref (b + o0)), (1, .int x1)]) hx0 hb dX8_addRoman_17 hl (k := 2) rfl rfl (by decide) rfl (fun ls hl => ?_)
      refine lv_goto (tgt := 2) hx0 hb dX8_addRoman_20 (by decide) ?_
      exact ih (x2 + (1 : Int32)) v14 h _ _ _ hW hS (lv_sub hl [1, 2, 0] rfl)
def fX8_addRoman (o0 : Nat) (x1 : Int32) (σ : Mem) : Option Mem :=
  (fX8_addRoman_l2 o0 x1 FU (0 : Int32) σ).bind fun q2 => (fX8_addRomanDigit o0 ((x1 / (100 : Int32)) - (x1 / (100 : Int32)) / (10 : Int32) * (10 : Int32)) (99 : Int32) (100 : Int32) (109 : Int32) q2.2).bind fun v37 => (fX8_addRomanDigit o0 ((x1 / (10 : Int32)) - (x1 / (10 : Int32)) / (10 : Int32) * (10 : Int32)) (120 : Int32) (108 : Int32) (99 : Int32) v37).bind fun v54 => (fX8_addRomanDigit o0 (x1 - x1 / (10 : Int32) * (10 : Int32)) (105 : Int32) (118 : Int32) (120 : Int32) v54).bind fun v68 => some v68
set_option maxRecDepth 100000 in
set_option maxHeartbeats 4000000 in
theorem mX8_addRoman {l : Launch} {E : Ev} {b : Nat} (o0 : Nat) (x1 : Int32) (ho0 : kd o0 = 8) (σ : Mem) (r : Mem) (h : fX8_addRoman o0 x1 σ = some r) : Met l yX8_addRoman (tw yX8_addRoman cX8_addRoman 3 none) { frames := 2, cells := 0, slots := 0, locals := 46 } (va_Pc [.ref (b + o0), .int x1] (Pr l E (LC E b) σ)) (Qz E (LC E b) none r) 0 0 (La (LC E b)) := by
  refine ct_of (by decide) (Nat.le_of_ble_eq_true rfl) ?_
  intro p e s m below meth c C hW hS ls hl
  have hx0 := C.1
  have hb := C.2.1
  have hl : lv_has ls 3 [(0, .ref (b + o0)), (1, .int x1)] := hl
  unfold fX8_addRoman at h
  refine lv_iconst (v := (0 : Int32)) hx0 hb dX8_addRoman_0 (by decide) ?_
  refine lv_istore_n (lv' := [(2, .int (0 : Int32)), (0, .ref (b + o0)), (1, .int x1)]) hx0 hb dX8_addRoman_1 rfl hl (by decide) rfl (fun ls hl => ?_)
  obtain ⟨q2, h2, h⟩ := bnd h
  try dsimp only at h
  refine bX8_addRoman_l2 C o0 x1 ho0 (q := q2) ?_ FU (0 : Int32) σ h2 _ _ _ hW hS (lv_sub hl [1, 2, 0] rfl)
  intro H locs ls hW hS hl
  refine lv_aload_n hx0 hb dX8_addRoman_23 rfl (lv_at hl 0 rfl) ?_
  refine lv_iload_n hx0 hb dX8_addRoman_24 rfl (lv_at hl 1 rfl) ?_
  refine lv_bipush (v := (100 : Int32)) hx0 hb dX8_addRoman_25 (by decide) ?_
  refine lv_idiv hx0 hb dX8_addRoman_27 (by decide) ?_
  refine lv_bipush (v := (10 : Int32)) hx0 hb dX8_addRoman_28 (by decide) ?_
  refine lv_irem hx0 hb dX8_addRoman_30 (by decide) ?_
  refine lv_bipush (v := (99 : Int32)) hx0 hb dX8_addRoman_31 (by decide) ?_
  refine lv_bipush (v := (100 : Int32)) hx0 hb dX8_addRoman_33 (by decide) ?_
  refine lv_bipush (v := (109 : Int32)) hx0 hb dX8_addRoman_35 (by decide) ?_
  obtain ⟨v37, h37, h⟩ := bnd h
  try dsimp only at h
  refine w_callV (L := (LC E b)) (k := o0) (As := [.int ((x1 / (100 : Int32)) - (x1 / (100 : Int32)) / (10 : Int32) * (10 : Int32)), .int (99 : Int32), .int (100 : Int32), .int (109 : Int32)]) (rest := []) C hW hS (kdlt ho0 (by decide)) (ccX8 ho0) kcX8 (mX8_addRomanDigit o0 ((x1 / (100 : Int32)) - (x1 / (100 : Int32)) / (10 : Int32) * (10 : Int32)) (99 : Int32) (100 : Int32) (109 : Int32) ho0 q2.2 v37 h37) cwX8_addRomanDigit cvX8_addRomanDigit rfl mlX8_27 ⟨by decide, by decide⟩ rfl hl.1 (Nat.le_of_ble_eq_true rfl) ⟨by decide, by decide⟩ dX8_addRoman_37 rfl (fun H locs hW hS => ?_)
  refine lv_aload_n hx0 hb dX8_addRoman_40 rfl (lv_at hl 0 rfl) ?_
  refine lv_iload_n hx0 hb dX8_addRoman_41 rfl (lv_at hl 1 rfl) ?_
  refine lv_bipush (v := (10 : Int32)) hx0 hb dX8_addRoman_42 (by decide) ?_
  refine lv_idiv hx0 hb dX8_addRoman_44 (by decide) ?_
  refine lv_bipush (v := (10 : Int32)) hx0 hb dX8_addRoman_45 (by decide) ?_
  refine lv_irem hx0 hb dX8_addRoman_47 (by decide) ?_
  refine lv_bipush (v := (120 : Int32)) hx0 hb dX8_addRoman_48 (by decide) ?_
  refine lv_bipush (v := (108 : Int32)) hx0 hb dX8_addRoman_50 (by decide) ?_
  refine lv_bipush (v := (99 : Int32)) hx0 hb dX8_addRoman_52 (by decide) ?_
  obtain ⟨v54, h54, h⟩ := bnd h
  try dsimp only at h
  refine w_callV (L := (LC E b)) (k := o0) (As := [.int ((x1 / (10 : Int32)) - (x1 / (10 : Int32)) / (10 : Int32) * (10 : Int32)), .int (120 : Int32), .int (108 : Int32), .int (99 : Int32)]) (rest := []) C hW hS (kdlt ho0 (by decide)) (ccX8 ho0) kcX8 (mX8_addRomanDigit o0 ((x1 / (10 : Int32)) - (x1 / (10 : Int32)) / (10 : Int32) * (10 : Int32)) (120 : Int32) (108 : Int32) (99 : Int32) ho0 v37 v54 h54) cwX8_addRomanDigit cvX8_addRomanDigit rfl mlX8_27 ⟨by decide, by decide⟩ rfl hl.1 (Nat.le_of_ble_eq_true rfl) ⟨by decide, by decide⟩ dX8_addRoman_54 rfl (fun H locs hW hS => ?_)
  refine lv_aload_n hx0 hb dX8_addRoman_57 rfl (lv_at hl 0 rfl) ?_
  refine lv_iload_n hx0 hb dX8_addRoman_58 rfl (lv_at hl 1 rfl) ?_
  refine lv_bipush (v := (10 : Int32)) hx0 hb dX8_addRoman_59 (by decide) ?_
  refine lv_irem hx0 hb dX8_addRoman_61 (by decide) ?_
  refine lv_bipush (v := (105 : Int32)) hx0 hb dX8_addRoman_62 (by decide) ?_
  refine lv_bipush (v := (118 : Int32)) hx0 hb dX8_addRoman_64 (by decide) ?_
  refine lv_bipush (v := (120 : Int32)) hx0 hb dX8_addRoman_66 (by decide) ?_
  obtain ⟨v68, h68, h⟩ := bnd h
  try dsimp only at h
  refine w_callV (L := (LC E b)) (k := o0) (As := [.int (x1 - x1 / (10 : Int32) * (10 : Int32)), .int (105 : Int32), .int (118 : Int32), .int (120 : Int32)]) (rest := []) C hW hS (kdlt ho0 (by decide)) (ccX8 ho0) kcX8 (mX8_addRomanDigit o0 (x1 - x1 / (10 : Int32) * (10 : Int32)) (105 : Int32) (118 : Int32) (120 : Int32) ho0 v54 v68 h68) cwX8_addRomanDigit cvX8_addRomanDigit rfl mlX8_27 ⟨by decide, by decide⟩ rfl hl.1 (Nat.le_of_ble_eq_true rfl) ⟨by decide, by decide⟩ dX8_addRoman_68 rfl (fun H locs hW hS => ?_)
  cases h
  exact w_vret C hW hS dX8_addRoman_71
