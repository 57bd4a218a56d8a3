/-! PageArchive$History, by program out of the bytecode -/
def fX0_size (o0 : Nat) (σ : Mem) : Option Int32 :=
  some (σ o0 2)
set_option maxRecDepth 100000 in
set_option maxHeartbeats 4000000 in
theorem mX0_size {l : Launch} {E : Ev} {b : Nat} (o0 : Nat) (ho0 : kd o0 = 0) (σ : Mem) (r : Int32) (h : fX0_size o0 σ = some r) : Met l yX0_size (tw yX0_size cX0_size 1 (some .int)) { frames := 0, cells := 0, slots := 0, locals := 0 } (va_Pc [.ref (b + o0)] (Pr l E (LC E b) σ)) (Qz E (LC E b) (some (.int r)) σ) 0 0 (La (LC E b)) := by
  refine ct_of (by decide) (Nat.le_of_ble_eq_true rfl) ?_
  intro p e s m below meth c C hW hS ls hl
  have hx0 := C.1
  have hb := C.2.1
  have hl : lv_has ls 1 [(0, .ref (b + o0))] := hl
  unfold fX0_size at h
  refine lv_aload_n hx0 hb dX0_size_0 rfl (lv_at hl 0 rfl) ?_
  refine gtX0_2 (k := o0) C hW ho0 flX0_21 dX0_size_1 ?_
  cases h
  exact w_iret C hW hS dX0_size_4
def fX0_clear (o0 : Nat) (σ : Mem) : Option Mem :=
  some (up σ o0 2 (0 : Int32))
set_option maxRecDepth 100000 in
set_option maxHeartbeats 4000000 in
theorem mX0_clear {l : Launch} {E : Ev} {b : Nat} (o0 : Nat) (ho0 : kd o0 = 0) (σ : Mem) (r : Mem) (h : fX0_clear o0 σ = some r) : Met l yX0_clear (tw yX0_clear cX0_clear 1 none) { frames := 0, cells := 0, slots := 0, locals := 0 } (va_Pc [.ref (b + o0)] (Pr l E (LC E b) σ)) (Qz E (LC E b) none r) 0 0 (La (LC E b)) := by
  refine ct_of (by decide) (Nat.le_of_ble_eq_true rfl) ?_
  intro p e s m below meth c C hW hS ls hl
  have hx0 := C.1
  have hb := C.2.1
  have hl : lv_has ls 1 [(0, .ref (b + o0))] := hl
  unfold fX0_clear at h
  refine lv_aload_n hx0 hb dX0_clear_0 rfl (lv_at hl 0 rfl) ?_
  refine lv_iconst (v := (0 : Int32)) hx0 hb dX0_clear_1 (by decide) ?_
  refine ptX0_2 (k := o0) C hW hS ho0 flX0_21 dX0_clear_2 (fun H locs hW hS => ?_)
  cases h
  exact w_vret C hW hS dX0_clear_5
def fX0_slotAt (o0 : Nat) (x1 : Int32) (σ : Mem) : Option Nat :=
  if x1 < 0 then none else (if (8 : Int32) ≤ x1 then none else (if x1 < 0 ∨ 8 ≤ x1.toNatClampNeg then none else some ((o0 + 1) + (1 + 31 * x1.toNatClampNeg))))
set_option maxRecDepth 100000 in
set_option maxHeartbeats 4000000 in
theorem mX0_slotAt {l : Launch} {E : Ev} {b : Nat} (o0 : Nat) (x1 : Int32) (ho0 : kd o0 = 0) (σ : Mem) (r : Nat) (h : fX0_slotAt o0 x1 σ = some r) : Met l yX0_slotAt (tw yX0_slotAt cX0_slotAt 2 (some (.object "PageArchive$State"))) { frames := 0, cells := 0, slots := 0, locals := 0 } (va_Pc [.ref (b + o0), .int x1] (Pr l E (LC E b) σ)) (Qz E (LC E b) (some (.ref (b + r))) σ) 0 0 (La (LC E b)) := by
  refine ct_of (by decide) (Nat.le_of_ble_eq_true rfl) ?_
  intro p e s m below meth c C hW hS ls hl
  have hx0 := C.1
  have hb := C.2.1
  have hl : lv_has ls 2 [(0, .ref (b + o0)), (1, .int x1)] := hl
  unfold fX0_slotAt at h
  refine lv_iload_n hx0 hb dX0_slotAt_0 rfl (lv_at hl 1 rfl) ?_
  refine lv_if_lt (tgt := 22) hx0 hb dX0_slotAt_1 (by decide) (fun c1 => ?_) (fun c1 => ?_)
  · rw [if_pos c1] at h
    cases h
  · rw [if_neg c1] at h
    refine lv_iload_n hx0 hb dX0_slotAt_4 rfl (lv_at hl 1 rfl) ?_
    refine lv_aload_n hx0 hb dX0_slotAt_5 rfl (lv_at hl 0 rfl) ?_
    refine gtX0_0 (k := o0) C hW ho0 flX0_11 dX0_slotAt_6 ?_
    refine alG C hW (chX0_0 ho0) dX0_slotAt_9 ?_
    refine lv_icmp_ge (tgt := 22) hx0 hb dX0_slotAt_10 (by decide) (fun c10 => ?_) (fun c10 => ?_)
    · rw [if_pos c10] at h
      cases h
    · rw [if_neg c10] at h
      refine lv_aload_n hx0 hb dX0_slotAt_13 rfl (lv_at hl 0 rfl) ?_
      refine gtX0_0 (k := o0) C hW ho0 flX0_11 dX0_slotAt_14 ?_
      refine lv_iload_n hx0 hb dX0_slotAt_17 rfl (lv_at hl 1 rfl) ?_
      by_cases z18 : x1 < 0 ∨ 8 ≤ x1.toNatClampNeg
      · rw [if_pos z18] at h; cases h
      rw [if_neg z18] at h
      refine ldG (k := o0 + 1) C hW (chX0_0 ho0) z18 dX0_slotAt_18 ?_
      refine lv_goto (tgt := 23) hx0 hb dX0_slotAt_19 (by decide) ?_
      cases h
      exact w_aret C hW hS dX0_slotAt_23
theorem slot_kd {o0 : Nat} {x1 : Int32} {σ : Mem} {v : Nat} (ho0 : kd o0 = 0) (h : fX0_slotAt o0 x1 σ = some v) : kd v = 7 := by
  unfold fX0_slotAt at h
  split at h
  · cases h
  · split at h
    · cases h
    · split at h
      · cases h
      · rename_i hz
        cases h
        exact chG (chX0_0 ho0) (Nat.not_le.mp fun q => hz (Or.inr q))
def fX0_keep (o0 : Nat) (o1 : Nat) (σ : Mem) : Option Mem :=
  (fX0_slotAt o0 (σ o0 1) σ).bind fun v5 => (fX7_copyFrom v5 o1 σ).bind fun v15 => if (8 : Int32) ≤ ((v15 o0 1) + (1 : Int32)) then (some (up (up v15 o0 1 (0 : Int32)) o0 2 (if (8 : Int32) < (((up v15 o0 1 (0 : Int32)) o0 2) + (1 : Int32)) then (8 : Int32) else (((up v15 o0 1 (0 : Int32)) o0 2) + (1 : Int32))))) else (some (up (up v15 o0 1 ((v15 o0 1) + (1 : Int32))) o0 2 (if (8 : Int32) < (((up v15 o0 1 ((v15 o0 1) + (1 : Int32))) o0 2) + (1 : Int32)) then (8 : Int32) else (((up v15 o0 1 ((v15 o0 1) + (1 : Int32))) o0 2) + (1 : Int32)))))
set_option maxRecDepth 100000 in
set_option maxHeartbeats 4000000 in
theorem mX0_keep {l : Launch} {E : Ev} {b : Nat} (o0 : Nat) (o1 : Nat) (ho0 : kd o0 = 0) (ho1 : kd o1 = 7) (σ : Mem) (r : Mem) (h : fX0_keep o0 o1 σ = some r) : Met l yX0_keep (tw yX0_keep cX0_keep 3 none) { frames := 4, cells := 0, slots := 0, locals := 104 } (va_Pc [.ref (b + o0), .ref (b + o1)] (Pr l E (LC E b) σ)) (Qz E (LC E b) none r) 0 0 (La (LC E b)) := by
  refine ct_of (by decide) (Nat.le_of_ble_eq_true rfl) ?_
  intro p e s m below meth c C hW hS ls hl
  have hx0 := C.1
  have hb := C.2.1
  have hl : lv_has ls 3 [(0, .ref (b + o0)), (1, .ref (b + o1))] := hl
  unfold fX0_keep at h
  refine lv_aload_n hx0 hb dX0_keep_0 rfl (lv_at hl 0 rfl) ?_
  refine lv_aload_n hx0 hb dX0_keep_1 rfl (lv_at hl 0 rfl) ?_
  refine gtX0_1 (k := o0) C hW ho0 flX0_17 dX0_keep_2 ?_
  obtain ⟨v5, h5, h⟩ := bnd h
  try dsimp only at h
  refine w_callV (L := (LC E b)) (k := o0) (As := [.int (σ o0 1)]) (rest := []) C hW hS (kdlt ho0 (by decide)) (ccX0 ho0) kcX0 (mX0_slotAt o0 (σ o0 1) ho0 σ v5 h5) cwX0_slotAt cvX0_slotAt rfl mlX0_25 ⟨by decide, by decide⟩ rfl hl.1 (Nat.le_of_ble_eq_true rfl) ⟨by decide, by decide⟩ dX0_keep_5 rfl (fun H locs hW hS => ?_)
  refine lv_astore_n (lv' := [(2, .ref (b + v5)), (0, .ref (b + o0)), (1, .ref (b + o1))]) hx0 hb dX0_keep_8 rfl hl (by decide) rfl (fun ls hl => ?_)
  refine lv_aload_n hx0 hb dX0_keep_9 rfl (lv_at hl 0 rfl) ?_
  refine lv_ifnull hx0 hb dX0_keep_10 ?_
  refine lv_aload_n hx0 hb dX0_keep_13 rfl (lv_at hl 0 rfl) ?_
  refine lv_aload_n hx0 hb dX0_keep_14 rfl (lv_at hl 2 rfl) ?_
  obtain ⟨v15, h15, h⟩ := bnd h
  try dsimp only at h
  refine w_callV (L := (LC E b)) (k := v5) (As := [.ref (b + o1)]) (rest := []) C hW hS (kdlt (slot_kd ho0 h5) (by decide)) (ccX7 (slot_kd ho0 h5)) kcX7 (mX7_copyFrom v5 o1 (slot_kd ho0 h5) ho1 σ v15 h15) cwX7_copyFrom cvX7_copyFrom rfl mlX0_29 ⟨by decide, by decide⟩ rfl hl.1 (Nat.le_of_ble_eq_true rfl) ⟨by decide, by decide⟩ dX0_keep_15 rfl (fun H locs hW hS => ?_)
  refine lv_aload_n hx0 hb dX0_keep_18 rfl (lv_at hl 1 rfl) ?_
  refine lv_aload_n hx0 hb dX0_keep_19 rfl (lv_at hl 1 rfl) ?_
  refine gtX0_1 (k := o0) C hW ho0 flX0_17 dX0_keep_20 ?_
  refine lv_iconst (v := (1 : Int32)) hx0 hb dX0_keep_23 (by decide) ?_
  refine lv_iadd hx0 hb dX0_keep_24 ?_
  refine lv_bipush (v := (8 : Int32)) hx0 hb dX0_keep_25 (by decide) ?_
  refine lv_icmp_ge (tgt := 39) hx0 hb dX0_keep_27 (by decide) (fun c27 => ?_) (fun c27 => ?_)
  · rw [if_pos c27] at h
    refine lv_iconst (v := (0 : Int32)) hx0 hb dX0_keep_39 (by decide) ?_
    refine ptX0_1 (k := o0) C hW hS ho0 flX0_17 dX0_keep_40 (fun H locs hW hS => ?_)
    refine lv_aload_n hx0 hb dX0_keep_43 rfl (lv_at hl 1 rfl) ?_
    refine lv_aload_n hx0 hb dX0_keep_44 rfl (lv_at hl 1 rfl) ?_
    refine gtX0_2 (k := o0) C hW ho0 flX0_21 dX0_keep_45 ?_
    refine lv_iconst (v := (1 : Int32)) hx0 hb dX0_keep_48 (by decide) ?_
    refine lv_iadd hx0 hb dX0_keep_49 ?_
    refine lv_bipush (v := (8 : Int32)) hx0 hb dX0_keep_50 (by decide) ?_
    refine w_mmin C hl.1 mlX0_33 ⟨by decide, Nat.le_of_ble_eq_true rfl⟩ ⟨by decide, by decide⟩ dX0_keep_52 ?_
    refine ptX0_2 (k := o0) C hW hS ho0 flX0_21 dX0_keep_55 (fun H locs hW hS => ?_)
    cases h
    exact w_vret C hW hS dX0_keep_58
  · rw [if_neg c27] at h
    refine lv_aload_n hx0 hb dX0_keep_30 rfl (lv_at hl 1 rfl) ?_
    refine gtX0_1 (k := o0) C hW ho0 flX0_17 dX0_keep_31 ?_
    refine lv_iconst (v := (1 : Int32)) hx0 hb dX0_keep_34 (by decide) ?_
    refine lv_iadd hx0 hb dX0_keep_35 ?_
    refine lv_goto (tgt := 40) hx0 hb dX0_keep_36 (by decide) ?_
    refine ptX0_1 (k := o0) C hW hS ho0 flX0_17 dX0_keep_40 (fun H locs hW hS => ?_)
    refine lv_aload_n hx0 hb dX0_keep_43 rfl (lv_at hl 1 rfl) ?_
    refine lv_aload_n hx0 hb dX0_keep_44 rfl (lv_at hl 1 rfl) ?_
    refine gtX0_2 (k := o0) C hW ho0 flX0_21 dX0_keep_45 ?_
    refine lv_iconst (v := (1 : Int32)) hx0 hb dX0_keep_48 (by decide) ?_
    refine lv_iadd hx0 hb dX0_keep_49 ?_
    refine lv_bipush (v := (8 : Int32)) hx0 hb dX0_keep_50 (by decide) ?_
    refine w_mmin C hl.1 mlX0_33 ⟨by decide, Nat.le_of_ble_eq_true rfl⟩ ⟨by decide, by decide⟩ dX0_keep_52 ?_
    refine ptX0_2 (k := o0) C hW hS ho0 flX0_21 dX0_keep_55 (fun H locs hW hS => ?_)
    cases h
    exact w_vret C hW hS dX0_keep_58
def fX0_takeBack_j18 (o0 : Nat) (o1 : Nat) (s0 : Int32) (σ : Mem) : Option (Mem) :=
  (fX0_slotAt o0 s0 σ).bind fun v21 => if (σ o0 2) ≤ 0 then (some σ) else ((fX7_copyFrom o1 v21 σ).bind fun v38 => some (up (up v38 o0 1 s0) o0 2 (((up v38 o0 1 s0) o0 2) - (1 : Int32))))
set_option maxRecDepth 100000 in
set_option maxHeartbeats 4000000 in
theorem bX0_takeBack_j18 {p : Program} {l : Launch} {e : Env} {s : State} {m : MethodId} {args : Array Value} {below : List Frame} {meth : Method} {c : Code} {E : Ev} {b : Nat} (C : Cx p l s m args meth c E cX0_takeBack 4 RX0 none) (o0 : Nat) (o1 : Nat) (s0 : Int32) (ho0 : kd o0 = 0) (ho1 : kd o1 = 7) {r : Mem} (σ : Mem) (h : fX0_takeBack_j18 o0 o1 s0 σ = some r) (H : Heap) (locs : List Loc) (ls : Array Slot) (hW : Wd E (LC E b) σ H) (hS : va_S (La (LC E b)) s.heap H locs) (hl : lv_has ls 4 [(0, .ref (b + o0)), (1, .ref (b + o1))]) : W p l e { frames := 4, cells := 0, slots := 0, locals := 104 } s m args below meth c H locs 0 0 (MQ below (Qz E (LC E b) none r) args s 0 0 (La (LC E b))) (F0 m 18 ls [.int s0]) := by
  have hx0 := C.1
  have hb := C.2.1
  unfold fX0_takeBack_j18 at h
  refine lv_istore_n (lv' := [(2, .int s0), (0, .ref (b + o0)), (1, .ref (b + o1))]) hx0 hb dX0_takeBack_18 rfl hl (by decide) rfl (fun ls hl => ?_)
  refine lv_aload_n hx0 hb dX0_takeBack_19 rfl (lv_at hl 1 rfl) ?_
  refine lv_iload_n hx0 hb dX0_takeBack_20 rfl (lv_at hl 0 rfl) ?_
  obtain ⟨v21, h21, h⟩ := bnd h
  try dsimp only at h
  refine w_callV (L := (LC E b)) (k := o0) (As := [.int s0]) (rest := []) C hW hS (kdlt ho0 (by decide)) (ccX0 ho0) kcX0 (mX0_slotAt o0 s0 ho0 σ v21 h21) cwX0_slotAt cvX0_slotAt rfl mlX0_25 ⟨by decide, by decide⟩ rfl hl.1 (Nat.le_of_ble_eq_true rfl) ⟨by decide, by decide⟩ dX0_takeBack_21 rfl (fun H locs hW hS => ?_)
  refine lv_astore_n (lv' := [(3, .ref (b + v21)), (2, .int s0), (0, .ref (b + o0)), (1, .ref (b + o1))]) hx0 hb dX0_takeBack_24 rfl hl (by decide) rfl (fun ls hl => ?_)
  refine lv_aload_n hx0 hb dX0_takeBack_25 rfl (lv_at hl 0 rfl) ?_
  refine lv_ifnull hx0 hb dX0_takeBack_26 ?_
  refine lv_aload_n hx0 hb dX0_takeBack_29 rfl (lv_at hl 2 rfl) ?_
  refine gtX0_2 (k := o0) C hW ho0 flX0_21 dX0_takeBack_30 ?_
  refine lv_if_le (tgt := 56) hx0 hb dX0_takeBack_33 (by decide) (fun c33 => ?_) (fun c33 => ?_)
  · rw [if_pos c33] at h
    cases h
    exact w_vret C hW hS dX0_takeBack_56
  · rw [if_neg c33] at h
    refine lv_aload_n hx0 hb dX0_takeBack_36 rfl (lv_at hl 3 rfl) ?_
    refine lv_aload_n hx0 hb dX0_takeBack_37 rfl (lv_at hl 0 rfl) ?_
    obtain ⟨v38, h38, h⟩ := bnd h
    try dsimp only at h
    refine w_callV (L := (LC E b)) (k := o1) (As := [.ref (b + v21)]) (rest := []) C hW hS (kdlt ho1 (by decide)) (ccX7 ho1) kcX7 (mX7_copyFrom o1 v21 ho1 (slot_kd ho0 h21) σ v38 h38) cwX7_copyFrom cvX7_copyFrom rfl mlX0_29 ⟨by decide, by decide⟩ rfl hl.1 (Nat.le_of_ble_eq_true rfl) ⟨by decide, by decide⟩ dX0_takeBack_38 rfl (fun H locs hW hS => ?_)
    refine lv_aload_n hx0 hb dX0_takeBack_41 rfl (lv_at hl 2 rfl) ?_
    refine lv_iload_n hx0 hb dX0_takeBack_42 rfl (lv_at hl 1 rfl) ?_
    refine ptX0_1 (k := o0) C hW hS ho0 flX0_17 dX0_takeBack_43 (fun H locs hW hS => ?_)
    refine lv_aload_n hx0 hb dX0_takeBack_46 rfl (lv_at hl 2 rfl) ?_
    refine lv_dup hx0 hb dX0_takeBack_47 rfl ?_
    refine gtX0_2 (k := o0) C hW ho0 flX0_21 dX0_takeBack_48 ?_
    refine lv_iconst (v := (1 : Int32)) hx0 hb dX0_takeBack_51 (by decide) ?_
    refine lv_isub hx0 hb dX0_takeBack_52 ?_
    refine ptX0_2 (k := o0) C hW hS ho0 flX0_21 dX0_takeBack_53 (fun H locs hW hS => ?_)
    cases h
    exact w_vret C hW hS dX0_takeBack_56
def fX0_takeBack (o0 : Nat) (o1 : Nat) (σ : Mem) : Option Mem :=
  if (σ o0 1) ≤ 0 then (fX0_takeBack_j18 o0 o1 (7 : Int32) σ) else (fX0_takeBack_j18 o0 o1 ((σ o0 1) - (1 : Int32)) σ)
set_option maxRecDepth 100000 in
set_option maxHeartbeats 4000000 in
theorem mX0_takeBack {l : Launch} {E : Ev} {b : Nat} (o0 : Nat) (o1 : Nat) (ho0 : kd o0 = 0) (ho1 : kd o1 = 7) (σ : Mem) (r : Mem) (h : fX0_takeBack o0 o1 σ = some r) : Met l yX0_takeBack (tw yX0_takeBack cX0_takeBack 4 none) { frames := 4, cells := 0, slots := 0, locals := 104 } (va_Pc [.ref (b + o0), .ref (b + o1)] (Pr l E (LC E b) σ)) (Qz E (LC E b) none r) 0 0 (La (LC E b)) := by
  refine ct_of (by decide) (Nat.le_of_ble_eq_true rfl) ?_
  intro p e s m below meth c C hW hS ls hl
  have hx0 := C.1
  have hb := C.2.1
  have hl : lv_has ls 4 [(0, .ref (b + o0)), (1, .ref (b + o1))] := hl
  unfold fX0_takeBack at h
  refine lv_aload_n hx0 hb dX0_takeBack_0 rfl (lv_at hl 0 rfl) ?_
  refine gtX0_1 (k := o0) C hW ho0 flX0_17 dX0_takeBack_1 ?_
  refine lv_if_le (tgt := 16) hx0 hb dX0_takeBack_4 (by decide) (fun c4 => ?_) (fun c4 => ?_)
  · rw [if_pos c4] at h
    refine lv_bipush (v := (7 : Int32)) hx0 hb dX0_takeBack_16 (by decide) ?_
    exact bX0_takeBack_j18 C o0 o1 (7 : Int32) ho0 ho1 σ h _ _ _ hW hS (lv_sub hl [0, 1] rfl)
  · rw [if_neg c4] at h
    refine lv_aload_n hx0 hb dX0_takeBack_7 rfl (lv_at hl 0 rfl) ?_
    refine gtX0_1 (k := o0) C hW ho0 flX0_17 dX0_takeBack_8 ?_
    refine lv_iconst (v := (1 : Int32)) hx0 hb dX0_takeBack_11 (by decide) ?_
    refine lv_isub hx0 hb dX0_takeBack_12 ?_
    refine lv_goto (tgt := 18) hx0 hb dX0_takeBack_13 (by decide) ?_
    exact bX0_takeBack_j18 C o0 o1 ((σ o0 1) - (1 : Int32)) ho0 ho1 σ h _ _ _ hW hS (lv_sub hl [0, 1] rfl)
