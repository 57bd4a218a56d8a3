/-! PageArchive$Volume, by program out of the bytecode -/
def fX10_clear (o0 : Nat) (σ : Mem) : Option Mem :=
  some (up (up (up σ o0 5 (0 : Int32)) o0 6 (0 : Int32)) o0 7 (0 : Int32))
set_option maxRecDepth 100000 in
set_option maxHeartbeats 4000000 in
theorem mX10_clear {l : Launch} {E : Ev} {b : Nat} (o0 : Nat) (ho0 : kd o0 = 10) (σ : Mem) (r : Mem) (h : fX10_clear o0 σ = some r) : Met l yX10_clear (tw yX10_clear cX10_clear 1 none) { frames := 0, cells := 0, slots := 0, locals := 0 } (va_Pc [.ref (b + o0)] (Pr l E (LC E b) σ)) (Qz E (LC E b) none r) 0 0 (La (LC E b)) := by
  refine ct_of (by decide) (Nat.le_of_ble_eq_true rfl) ?_
  intro p e s m below meth c C hW hS ls hl
  have hx0 := C.1
  have hb := C.2.1
  have hl : lv_has ls 1 [(0, .ref (b + o0))] := hl
  unfold fX10_clear at h
  refine lv_aload_n hx0 hb dX10_clear_0 rfl (lv_at hl 0 rfl) ?_
  refine lv_iconst (v := (0 : Int32)) hx0 hb dX10_clear_1 (by decide) ?_
  refine ptX10_5 (k := o0) C hW hS ho0 flX10_32 dX10_clear_2 (fun H locs hW hS => ?_)
  refine lv_aload_n hx0 hb dX10_clear_5 rfl (lv_at hl 0 rfl) ?_
  refine lv_iconst (v := (0 : Int32)) hx0 hb dX10_clear_6 (by decide) ?_
  refine ptX10_6 (k := o0) C hW hS ho0 flX10_36 dX10_clear_7 (fun H locs hW hS => ?_)
  refine lv_aload_n hx0 hb dX10_clear_10 rfl (lv_at hl 0 rfl) ?_
  refine lv_iconst (v := (0 : Int32)) hx0 hb dX10_clear_11 (by decide) ?_
  refine ptX10_7 (k := o0) C hW hS ho0 flX10_39 dX10_clear_12 (fun H locs hW hS => ?_)
  cases h
  exact w_vret C hW hS dX10_clear_15
def fX10_copyFrom (o0 : Nat) (o1 : Nat) (σ : Mem) : Option Mem :=
  (fX3_copyFrom (o0 + 1) (o1 + 1) σ).bind fun v8 => (fX3_copyFrom (o0 + 3) (o1 + 3) v8).bind fun v19 => (fX3_copyFrom (o0 + 5) (o1 + 5) v19).bind fun v30 => (fX3_copyFrom (o0 + 7) (o1 + 7) v30).bind fun v41 => (fX3_copyFrom (o0 + 9) (o1 + 9) v41).bind fun v52 => some (up (up (up v52 o0 5 (v52 o1 5)) o0 6 ((up v52 o0 5 (v52 o1 5)) o1 6)) o0 7 ((up (up v52 o0 5 (v52 o1 5)) o0 6 ((up v52 o0 5 (v52 o1 5)) o1 6)) o1 7))
set_option maxRecDepth 100000 in
set_option maxHeartbeats 4000000 in
theorem mX10_copyFrom {l : Launch} {E : Ev} {b : Nat} (o0 : Nat) (o1 : Nat) (ho0 : kd o0 = 10) (ho1 : kd o1 = 10) (σ : Mem) (r : Mem) (h : fX10_copyFrom o0 o1 σ = some r) : Met l yX10_copyFrom (tw yX10_copyFrom cX10_copyFrom 2 none) { frames := 2, cells := 0, slots := 0, locals := 62 } (va_Pc [.ref (b + o0), .ref (b + o1)] (Pr l E (LC E b) σ)) (Qz E (LC E b) none r) 0 0 (La (LC E b)) := by
  refine ct_of (by decide) (Nat.le_of_ble_eq_true rfl) ?_
  intro p e s m below meth c C hW hS ls hl
  have hx0 := C.1
  have hb := C.2.1
  have hl : lv_has ls 2 [(0, .ref (b + o0)), (1, .ref (b + o1))] := hl
  unfold fX10_copyFrom at h
  refine lv_aload_n hx0 hb dX10_copyFrom_0 rfl (lv_at hl 0 rfl) ?_
  refine gtX10_0 (k := o0) C hW ho0 flX10_14 dX10_copyFrom_1 ?_
  refine lv_aload_n hx0 hb dX10_copyFrom_4 rfl (lv_at hl 1 rfl) ?_
  refine gtX10_0 (k := o1) C hW ho1 flX10_14 dX10_copyFrom_5 ?_
  obtain ⟨v8, h8, h⟩ := bnd h
  try dsimp only at h
  refine w_callV (L := (LC E b)) (k := o0 + 1) (As := [.ref (b + (o1 + 1))]) (rest := []) C hW hS (kdlt (chX10_0 ho0) (by decide)) (ccX3 (chX10_0 ho0)) kcX3 (mX3_copyFrom (o0 + 1) (o1 + 1) (chX10_0 ho0) (chX10_0 ho1) σ v8 h8) cwX3_copyFrom cvX3_copyFrom rfl mlX10_42 ⟨by decide, by decide⟩ rfl hl.1 (Nat.le_of_ble_eq_true rfl) ⟨by decide, by decide⟩ dX10_copyFrom_8 rfl (fun H locs hW hS => ?_)
  refine lv_aload_n hx0 hb dX10_copyFrom_11 rfl (lv_at hl 0 rfl) ?_
  refine gtX10_1 (k := o0) C hW ho0 flX10_20 dX10_copyFrom_12 ?_
  refine lv_aload_n hx0 hb dX10_copyFrom_15 rfl (lv_at hl 1 rfl) ?_
  refine gtX10_1 (k := o1) C hW ho1 flX10_20 dX10_copyFrom_16 ?_
  obtain ⟨v19, h19, h⟩ := bnd h
  try dsimp only at h
  refine w_callV (L := (LC E b)) (k := o0 + 3) (As := [.ref (b + (o1 + 3))]) (rest := []) C hW hS (kdlt (chX10_1 ho0) (by decide)) (ccX3 (chX10_1 ho0)) kcX3 (mX3_copyFrom (o0 + 3) (o1 + 3) (chX10_1 ho0) (chX10_1 ho1) v8 v19 h19) cwX3_copyFrom cvX3_copyFrom rfl mlX10_42 ⟨by decide, by decide⟩ rfl hl.1 (Nat.le_of_ble_eq_true rfl) ⟨by decide, by decide⟩ dX10_copyFrom_19 rfl (fun H locs hW hS => ?_)
  refine lv_aload_n hx0 hb dX10_copyFrom_22 rfl (lv_at hl 0 rfl) ?_
  refine gtX10_2 (k := o0) C hW ho0 flX10_23 dX10_copyFrom_23 ?_
  refine lv_aload_n hx0 hb dX10_copyFrom_26 rfl (lv_at hl 1 rfl) ?_
  refine gtX10_2 (k := o1) C hW ho1 flX10_23 dX10_copyFrom_27 ?_
  obtain ⟨v30, h30, h⟩ := bnd h
  try dsimp only at h
  refine w_callV (L := (LC E b)) (k := o0 + 5) (As := [.ref (b + (o1 + 5))]) (rest := []) C hW hS (kdlt (chX10_2 ho0) (by decide)) (ccX3 (chX10_2 ho0)) kcX3 (mX3_copyFrom (o0 + 5) (o1 + 5) (chX10_2 ho0) (chX10_2 ho1) v19 v30 h30) cwX3_copyFrom cvX3_copyFrom rfl mlX10_42 ⟨by decide, by decide⟩ rfl hl.1 (Nat.le_of_ble_eq_true rfl) ⟨by decide, by decide⟩ dX10_copyFrom_30 rfl (fun H locs hW hS => ?_)
  refine lv_aload_n hx0 hb dX10_copyFrom_33 rfl (lv_at hl 0 rfl) ?_
  refine gtX10_3 (k := o0) C hW ho0 flX10_26 dX10_copyFrom_34 ?_
  refine lv_aload_n hx0 hb dX10_copyFrom_37 rfl (lv_at hl 1 rfl) ?_
  refine gtX10_3 (k := o1) C hW ho1 flX10_26 dX10_copyFrom_38 ?_
  obtain ⟨v41, h41, h⟩ := bnd h
  try dsimp only at h
  refine w_callV (L := (LC E b)) (k := o0 + 7) (As := [.ref (b + (o1 + 7))]) (rest := []) C hW hS (kdlt (chX10_3 ho0) (by decide)) (ccX3 (chX10_3 ho0)) kcX3 (mX3_copyFrom (o0 + 7) (o1 + 7) (chX10_3 ho0) (chX10_3 ho1) v30 v41 h41) cwX3_copyFrom cvX3_copyFrom rfl mlX10_42 ⟨by decide, by decide⟩ rfl hl.1 (Nat.le_of_ble_eq_true rfl) ⟨by decide, by decide⟩ dX10_copyFrom_41 rfl (fun H locs hW hS => ?_)
  refine lv_aload_n hx0 hb dX10_copyFrom_44 rfl (lv_at hl 0 rfl) ?_
  refine gtX10_4 (k := o0) C hW ho0 flX10_29 dX10_copyFrom_45 ?_
  refine lv_aload_n hx0 hb dX10_copyFrom_48 rfl (lv_at hl 1 rfl) ?_
  refine gtX10_4 (k := o1) C hW ho1 flX10_29 dX10_copyFrom_49 ?_
  obtain ⟨v52, h52, h⟩ := bnd h
  try dsimp only at h
  refine w_callV (L := (LC E b)) (k := o0 + 9) (As := [.ref (b + (o1 + 9))]) (rest := []) C hW hS (kdlt (chX10_4 ho0) (by decide)) (ccX3 (chX10_4 ho0)) kcX3 (mX3_copyFrom (o0 + 9) (o1 + 9) (chX10_4 ho0) (chX10_4 ho1) v41 v52 h52) cwX3_copyFrom cvX3_copyFrom rfl mlX10_42 ⟨by decide, by decide⟩ rfl hl.1 (Nat.le_of_ble_eq_true rfl) ⟨by decide, by decide⟩ dX10_copyFrom_52 rfl (fun H locs hW hS => ?_)
  refine lv_aload_n hx0 hb dX10_copyFrom_55 rfl (lv_at hl 0 rfl) ?_
  refine lv_aload_n hx0 hb dX10_copyFrom_56 rfl (lv_at hl 1 rfl) ?_
  refine gtX10_5 (k := o1) C hW ho1 flX10_32 dX10_copyFrom_57 ?_
  refine ptX10_5 (k := o0) C hW hS ho0 flX10_32 dX10_copyFrom_60 (fun H locs hW hS => ?_)
  refine lv_aload_n hx0 hb dX10_copyFrom_63 rfl (lv_at hl 0 rfl) ?_
  refine lv_aload_n hx0 hb dX10_copyFrom_64 rfl (lv_at hl 1 rfl) ?_
  refine gtX10_6 (k := o1) C hW ho1 flX10_36 dX10_copyFrom_65 ?_
  refine ptX10_6 (k := o0) C hW hS ho0 flX10_36 dX10_copyFrom_68 (fun H locs hW hS => ?_)
  refine lv_aload_n hx0 hb dX10_copyFrom_71 rfl (lv_at hl 0 rfl) ?_
  refine lv_aload_n hx0 hb dX10_copyFrom_72 rfl (lv_at hl 1 rfl) ?_
  refine gtX10_7 (k := o1) C hW ho1 flX10_39 dX10_copyFrom_73 ?_
  refine ptX10_7 (k := o0) C hW hS ho0 flX10_39 dX10_copyFrom_76 (fun H locs hW hS => ?_)
  cases h
  exact w_vret C hW hS dX10_copyFrom_79
def fX10_quireCount (o0 : Nat) (σ : Mem) : Option Int32 :=
  some (σ o0 5)
set_option maxRecDepth 100000 in
set_option maxHeartbeats 4000000 in
theorem mX10_quireCount {l : Launch} {E : Ev} {b : Nat} (o0 : Nat) (ho0 : kd o0 = 10) (σ : Mem) (r : Int32) (h : fX10_quireCount o0 σ = some r) : Met l yX10_quireCount (tw yX10_quireCount cX10_quireCount 1 (some .int)) { frames := 0, cells := 0, slots := 0, locals := 0 } (va_Pc [.ref (b + o0)] (Pr l E (LC E b) σ)) (Qz E (LC E b) (some (.int r)) σ) 0 0 (La (LC E b)) := by
  refine ct_of (by decide) (Nat.le_of_ble_eq_true rfl) ?_
  intro p e s m below meth c C hW hS ls hl
  have hx0 := C.1
  have hb := C.2.1
  have hl : lv_has ls 1 [(0, .ref (b + o0))] := hl
  unfold fX10_quireCount at h
  refine lv_aload_n hx0 hb dX10_quireCount_0 rfl (lv_at hl 0 rfl) ?_
  refine gtX10_5 (k := o0) C hW ho0 flX10_32 dX10_quireCount_1 ?_
  cases h
  exact w_iret C hW hS dX10_quireCount_4
def fX10_takesQuire (o0 : Nat) (σ : Mem) : Option Int32 :=
  if (8 : Int32) ≤ (σ o0 5) then (some (0 : Int32)) else (some (1 : Int32))
set_option maxRecDepth 100000 in
set_option maxHeartbeats 4000000 in
theorem mX10_takesQuire {l : Launch} {E : Ev} {b : Nat} (o0 : Nat) (ho0 : kd o0 = 10) (σ : Mem) (r : Int32) (h : fX10_takesQuire o0 σ = some r) : Met l yX10_takesQuire (tw yX10_takesQuire cX10_takesQuire 1 (some .boolean)) { frames := 0, cells := 0, slots := 0, locals := 0 } (va_Pc [.ref (b + o0)] (Pr l E (LC E b) σ)) (Qz E (LC E b) (some (.int r)) σ) 0 0 (La (LC E b)) := by
  refine ct_of (by decide) (Nat.le_of_ble_eq_true rfl) ?_
  intro p e s m below meth c C hW hS ls hl
  have hx0 := C.1
  have hb := C.2.1
  have hl : lv_has ls 1 [(0, .ref (b + o0))] := hl
  unfold fX10_takesQuire at h
  refine lv_aload_n hx0 hb dX10_takesQuire_0 rfl (lv_at hl 0 rfl) ?_
  refine gtX10_5 (k := o0) C hW ho0 flX10_32 dX10_takesQuire_1 ?_
  refine lv_bipush (v := (8 : Int32)) hx0 hb dX10_takesQuire_4 (by decide) ?_
  refine lv_icmp_ge (tgt := 13) hx0 hb dX10_takesQuire_6 (by decide) (fun c6 => ?_) (fun c6 => ?_)
  · rw [if_pos c6] at h
    refine lv_iconst (v := (0 : Int32)) hx0 hb dX10_takesQuire_13 (by decide) ?_
    cases h
    exact w_zret C hW hS (Or.inl rfl) dX10_takesQuire_14
  · rw [if_neg c6] at h
    refine lv_iconst (v := (1 : Int32)) hx0 hb dX10_takesQuire_9 (by decide) ?_
    refine lv_goto (tgt := 14) hx0 hb dX10_takesQuire_10 (by decide) ?_
    cases h
    exact w_zret C hW hS (Or.inr rfl) dX10_takesQuire_14
def fX10_takesLeaves (o0 : Nat) (x1 : Int32) (σ : Mem) : Option Int32 :=
  if x1 < (2 : Int32) then (some (0 : Int32)) else (if (12 : Int32) < x1 then (some (0 : Int32)) else (if (x1 - x1 / (2 : Int32) * (2 : Int32)) = 0 then (if (60 : Int32) < ((σ o0 6) + x1) then (some (0 : Int32)) else (some (1 : Int32))) else (some (0 : Int32))))
set_option maxRecDepth 100000 in
set_option maxHeartbeats 4000000 in
theorem mX10_takesLeaves {l : Launch} {E : Ev} {b : Nat} (o0 : Nat) (x1 : Int32) (ho0 : kd o0 = 10) (σ : Mem) (r : Int32) (h : fX10_takesLeaves o0 x1 σ = some r) : Met l yX10_takesLeaves (tw yX10_takesLeaves cX10_takesLeaves 2 (some .boolean)) { frames := 0, cells := 0, slots := 0, locals := 0 } (va_Pc [.ref (b + o0), .int x1] (Pr l E (LC E b) σ)) (Qz E (LC E b) (some (.int r)) σ) 0 0 (La (LC E b)) := by
  refine ct_of (by decide) (Nat.le_of_ble_eq_true rfl) ?_
  intro p e s m below meth c C hW hS ls hl
  have hx0 := C.1
  have hb := C.2.1
  have hl : lv_has ls 2 [(0, .ref (b + o0)), (1, .int x1)] := hl
  unfold fX10_takesLeaves at h
  refine lv_iload_n hx0 hb dX10_takesLeaves_0 rfl (lv_at hl 1 rfl) ?_
  refine lv_iconst (v := (2 : Int32)) hx0 hb dX10_takesLeaves_1 (by decide) ?_
  refine lv_icmp_lt (tgt := 32) hx0 hb dX10_takesLeaves_2 (by decide) (fun c2 => ?_) (fun c2 => ?_)
  · rw [if_pos c2] at h
    refine lv_iconst (v := (0 : Int32)) hx0 hb dX10_takesLeaves_32 (by decide) ?_
    cases h
    exact w_zret C hW hS (Or.inl rfl) dX10_takesLeaves_33
  · rw [if_neg c2] at h
    refine lv_iload_n hx0 hb dX10_takesLeaves_5 rfl (lv_at hl 1 rfl) ?_
    refine lv_bipush (v := (12 : Int32)) hx0 hb dX10_takesLeaves_6 (by decide) ?_
    refine lv_icmp_gt (tgt := 32) hx0 hb dX10_takesLeaves_8 (by decide) (fun c8 => ?_) (fun c8 => ?_)
    · rw [if_pos c8] at h
      refine lv_iconst (v := (0 : Int32)) hx0 hb dX10_takesLeaves_32 (by decide) ?_
      cases h
      exact w_zret C hW hS (Or.inl rfl) dX10_takesLeaves_33
    · rw [if_neg c8] at h
      refine lv_iload_n hx0 hb dX10_takesLeaves_11 rfl (lv_at hl 1 rfl) ?_
      refine lv_iconst (v := (2 : Int32)) hx0 hb dX10_takesLeaves_12 (by decide) ?_
      refine lv_irem hx0 hb dX10_takesLeaves_13 (by decide) ?_
      refine lv_if_ne (tgt := 32) hx0 hb dX10_takesLeaves_14 (by decide) (fun c14 => ?_) (fun c14 => ?_)
      · rw [if_neg c14] at h
        refine lv_iconst (v := (0 : Int32)) hx0 hb dX10_takesLeaves_32 (by decide) ?_
        cases h
        exact w_zret C hW hS (Or.inl rfl) dX10_takesLeaves_33
      · rw [if_pos c14] at h
        refine lv_aload_n hx0 hb dX10_takesLeaves_17 rfl (lv_at hl 0 rfl) ?_
        refine gtX10_6 (k := o0) C hW ho0 flX10_36 dX10_takesLeaves_18 ?_
        refine lv_iload_n hx0 hb dX10_takesLeaves_21 rfl (lv_at hl 1 rfl) ?_
        refine lv_iadd hx0 hb dX10_takesLeaves_22 ?_
        refine lv_bipush (v := (60 : Int32)) hx0 hb dX10_takesLeaves_23 (by decide) ?_
        refine lv_icmp_gt (tgt := 32) hx0 hb dX10_takesLeaves_25 (by decide) (fun c25 => ?_) (fun c25 => ?_)
        · rw [if_pos c25] at h
          refine lv_iconst (v := (0 : Int32)) hx0 hb dX10_takesLeaves_32 (by decide) ?_
          cases h
          exact w_zret C hW hS (Or.inl rfl) dX10_takesLeaves_33
        · rw [if_neg c25] at h
          refine lv_iconst (v := (1 : Int32)) hx0 hb dX10_takesLeaves_28 (by decide) ?_
          refine lv_goto (tgt := 33) hx0 hb dX10_takesLeaves_29 (by decide) ?_
          cases h
          exact w_zret C hW hS (Or.inr rfl) dX10_takesLeaves_33
def fX10_addQuire_l17 (o0 : Nat) (x1 : Int32) : Nat → Int32 → Mem → Option (Int32 × Mem)
  | 0, _, _ => none
  | n + 1, x2, σ => if x1 ≤ x2 then (some (x2, σ)) else ((fX3_put (o0 + 3) ((σ o0 6) + x2) (0 : Int32) σ).bind fun v33 => fX10_addQuire_l17 o0 x1 n (x2 + (1 : Int32)) v33)
set_option maxRecDepth 100000 in
set_option maxHeartbeats 4000000 in
theorem bX10_addQuire_l17 {p : Program} {l : Launch} {e : Env} {s : State} {m : MethodId} {args : Array Value} {below : List Frame} {meth : Method} {c : Code} {E : Ev} {b : Nat} (C : Cx p l s m args meth c E cX10_addQuire 3 RX10 none) (o0 : Nat) (x1 : Int32) (ho0 : kd o0 = 10) {Qf : State → Prop} {q : Int32 × Mem} (hx : ∀ H locs ls, Wd E (LC E b) q.2 H → va_S (La (LC E b)) s.heap H locs → lv_has ls 3 [(0, .ref (b + o0)), (1, .int x1), (2, .int q.1)] → W p l e { frames := 1, cells := 0, slots := 0, locals := 22 } s m args below meth c H locs 0 0 Qf (F0 m 42 ls [])) : ∀ (n : Nat) (x2 : Int32) (σ : Mem), fX10_addQuire_l17 o0 x1 n x2 σ = some q → ∀ (H : Heap) (locs : List Loc) (ls : Array Slot), Wd E (LC E b) σ H → va_S (La (LC E b)) s.heap H locs → lv_has ls 3 [(0, .ref (b + o0)), (1, .int x1), (2, .int x2)] → W p l e { frames := 1, cells := 0, slots := 0, locals := 22 } s m args below meth c H locs 0 0 Qf (F0 m 17 ls []) := by
  have hx0 := C.1
  have hb := C.2.1
  intro n
  induction n with
  | zero => intro x2 σ h; simp [fX10_addQuire_l17] at h
  | succ n ih =>
    intro x2 σ h H locs ls hW hS hl
    unfold fX10_addQuire_l17 at h
    refine lv_iload_n hx0 hb dX10_addQuire_17 rfl (lv_at hl 2 rfl) ?_
    refine lv_iload_n hx0 hb dX10_addQuire_18 rfl (lv_at hl 1 rfl) ?_
    refine lv_icmp_ge (tgt := 42) hx0 hb dX10_addQuire_19 (by decide) (fun c19 => ?_) (fun c19 => ?_)
    · rw [if_pos c19] at h
      cases h
      exact hx _ _ _ hW hS (lv_sub hl [0, 1, 2] rfl)
    · rw [if_neg c19] at h
      refine lv_aload_n hx0 hb dX10_addQuire_22 rfl (lv_at hl 0 rfl) ?_
      refine gtX10_1 (k := o0) C hW ho0 flX10_20 dX10_addQuire_23 ?_
      refine lv_aload_n hx0 hb dX10_addQuire_26 rfl (lv_at hl 0 rfl) ?_
      refine gtX10_6 (k := o0) C hW ho0 flX10_36 dX10_addQuire_27 ?_
      refine lv_iload_n hx0 hb dX10_addQuire_30 rfl (lv_at hl 2 rfl) ?_
      refine lv_iadd hx0 hb dX10_addQuire_31 ?_
      refine lv_iconst (v := (0 : Int32)) hx0 hb dX10_addQuire_32 (by decide) ?_
      obtain ⟨v33, h33, h⟩ := bnd h
      try dsimp only at h
      refine w_callV (L := (LC E b)) (k := o0 + 3) (As := [.int ((σ o0 6) + x2), .int (0 : Int32)]) (rest := []) C hW hS (kdlt (chX10_1 ho0) (by decide)) (ccX3 (chX10_1 ho0)) kcX3 (mX3_put (o0 + 3) ((σ o0 6) + x2) (0 : Int32) (chX10_1 ho0) σ v33 h33) cwX3_put cvX3_put rfl mlX10_54 ⟨by decide, by decide⟩ rfl hl.1 (Nat.le_of_ble_eq_true rfl) ⟨by decide, by decide⟩ dX10_addQuire_33 rfl (fun H locs hW hS => ?_)
      refine lv_iinc (v := x2 + (1 : Int32)) (lv' := [(2, .int (x2 + (1 : Int32))), (0, .ref (b + o0)), (1, .int x1)]) hx0 hb dX10_addQuire_36 hl (k := 2) rfl rfl (by decide) rfl (fun ls hl => ?_)
      refine lv_goto (tgt := 17) hx0 hb dX10_addQuire_39 (by decide) ?_
      exact ih (x2 + (1 : Int32)) v33 h _ _ _ hW hS (lv_sub hl [1, 2, 0] rfl)
def fX10_addQuire (o0 : Nat) (x1 : Int32) (σ : Mem) : Option Mem :=
  (fX10_takesQuire o0 σ).bind fun v1 => if v1 = 0 then (some σ) else ((fX10_takesLeaves o0 x1 σ).bind fun v9 => if v9 = 0 then (some σ) else ((fX10_addQuire_l17 o0 x1 FU (0 : Int32) σ).bind fun q17 => (fX3_put (o0 + 1) (q17.2 o0 5) x1 q17.2).bind fun v51 => some (up (up v51 o0 5 ((v51 o0 5) + (1 : Int32))) o0 6 (((up v51 o0 5 ((v51 o0 5) + (1 : Int32))) o0 6) + x1))))
set_option maxRecDepth 100000 in
set_option maxHeartbeats 4000000 in
theorem mX10_addQuire {l : Launch} {E : Ev} {b : Nat} (o0 : Nat) (x1 : Int32) (ho0 : kd o0 = 10) (σ : Mem) (r : Mem) (h : fX10_addQuire o0 x1 σ = some r) : Met l yX10_addQuire (tw yX10_addQuire cX10_addQuire 3 none) { frames := 1, cells := 0, slots := 0, locals := 22 } (va_Pc [.ref (b + o0), .int x1] (Pr l E (LC E b) σ)) (Qz E (LC E b) none r) 0 0 (La (LC E b)) := by
  refine ct_of (by decide) (Nat.le_of_ble_eq_true rfl) ?_
  intro p e s m below meth c C hW hS ls hl
  have hx0 := C.1
  have hb := C.2.1
  have hl : lv_has ls 3 [(0, .ref (b + o0)), (1, .int x1)] := hl
  unfold fX10_addQuire at h
  refine lv_aload_n hx0 hb dX10_addQuire_0 rfl (lv_at hl 0 rfl) ?_
  obtain ⟨v1, h1, h⟩ := bnd h
  try dsimp only at h
  refine w_callV (L := (LC E b)) (k := o0) (As := []) (rest := []) C hW hS (kdlt ho0 (by decide)) (ccX10 ho0) kcX10 (mX10_takesQuire o0 ho0 σ v1 h1) cwX10_takesQuire cvX10_takesQuire rfl mlX10_46 ⟨by decide, by decide⟩ rfl hl.1 (Nat.le_of_ble_eq_true rfl) ⟨by decide, by decide⟩ dX10_addQuire_1 rfl (fun H locs hW hS => ?_)
  refine lv_if_eq (tgt := 74) hx0 hb dX10_addQuire_4 (by decide) (fun c4 => ?_) (fun c4 => ?_)
  · rw [if_pos c4] at h
    cases h
    exact w_vret C hW hS dX10_addQuire_74
  · rw [if_neg c4] at h
    refine lv_aload_n hx0 hb dX10_addQuire_7 rfl (lv_at hl 0 rfl) ?_
    refine lv_iload_n hx0 hb dX10_addQuire_8 rfl (lv_at hl 1 rfl) ?_
    obtain ⟨v9, h9, h⟩ := bnd h
    try dsimp only at h
    refine w_callV (L := (LC E b)) (k := o0) (As := [.int x1]) (rest := []) C hW hS (kdlt ho0 (by decide)) (ccX10 ho0) kcX10 (mX10_takesLeaves o0 x1 ho0 σ v9 h9) cwX10_takesLeaves cvX10_takesLeaves rfl mlX10_50 ⟨by decide, by decide⟩ rfl hl.1 (Nat.le_of_ble_eq_true rfl) ⟨by decide, by decide⟩ dX10_addQuire_9 rfl (fun H locs hW hS => ?_)
    refine lv_if_eq (tgt := 74) hx0 hb dX10_addQuire_12 (by decide) (fun c12 => ?_) (fun c12 => ?_)
    · rw [if_pos c12] at h
      cases h
      exact w_vret C hW hS dX10_addQuire_74
    · rw [if_neg c12] at h
      refine lv_iconst (v := (0 : Int32)) hx0 hb dX10_addQuire_15 (by decide) ?_
      refine lv_istore_n (lv' := [(2, .int (0 : Int32)), (0, .ref (b + o0)), (1, .int x1)]) hx0 hb dX10_addQuire_16 rfl hl (by decide) rfl (fun ls hl => ?_)
      obtain ⟨q17, h17, h⟩ := bnd h
      try dsimp only at h
      refine bX10_addQuire_l17 C o0 x1 ho0 (q := q17) ?_ FU (0 : Int32) σ h17 _ _ _ hW hS (lv_sub hl [1, 2, 0] rfl)
      intro H locs ls hW hS hl
      refine lv_aload_n hx0 hb dX10_addQuire_42 rfl (lv_at hl 0 rfl) ?_
      refine gtX10_0 (k := o0) C hW ho0 flX10_14 dX10_addQuire_43 ?_
      refine lv_aload_n hx0 hb dX10_addQuire_46 rfl (lv_at hl 0 rfl) ?_
      refine gtX10_5 (k := o0) C hW ho0 flX10_32 dX10_addQuire_47 ?_
      refine lv_iload_n hx0 hb dX10_addQuire_50 rfl (lv_at hl 1 rfl) ?_
      obtain ⟨v51, h51, h⟩ := bnd h
      try dsimp only at h
      refine w_callV (L := (LC E b)) (k := o0 + 1) (As := [.int (q17.2 o0 5), .int x1]) (rest := []) C hW hS (kdlt (chX10_0 ho0) (by decide)) (ccX3 (chX10_0 ho0)) kcX3 (mX3_put (o0 + 1) (q17.2 o0 5) x1 (chX10_0 ho0) q17.2 v51 h51) cwX3_put cvX3_put rfl mlX10_54 ⟨by decide, by decide⟩ rfl hl.1 (Nat.le_of_ble_eq_true rfl) ⟨by decide, by decide⟩ dX10_addQuire_51 rfl (fun H locs hW hS => ?_)
      refine lv_aload_n hx0 hb dX10_addQuire_54 rfl (lv_at hl 0 rfl) ?_
      refine lv_dup hx0 hb dX10_addQuire_55 rfl ?_
      refine gtX10_5 (k := o0) C hW ho0 flX10_32 dX10_addQuire_56 ?_
      refine lv_iconst (v := (1 : Int32)) hx0 hb dX10_addQuire_59 (by decide) ?_
      refine lv_iadd hx0 hb dX10_addQuire_60 ?_
      refine ptX10_5 (k := o0) C hW hS ho0 flX10_32 dX10_addQuire_61 (fun H locs hW hS => ?_)
      refine lv_aload_n hx0 hb dX10_addQuire_64 rfl (lv_at hl 0 rfl) ?_
      refine lv_dup hx0 hb dX10_addQuire_65 rfl ?_
      refine gtX10_6 (k := o0) C hW ho0 flX10_36 dX10_addQuire_66 ?_
      refine lv_iload_n hx0 hb dX10_addQuire_69 rfl (lv_at hl 1 rfl) ?_
      refine lv_iadd hx0 hb dX10_addQuire_70 ?_
      refine ptX10_6 (k := o0) C hW hS ho0 flX10_36 dX10_addQuire_71 (fun H locs hW hS => ?_)
      cases h
      exact w_vret C hW hS dX10_addQuire_74
def fX10_quireOf_l4 (o0 : Nat) (x1 : Int32) : Nat → Int32 → Int32 → Mem → Option (Int32 ⊕ (Int32 × Int32))
  | 0, _, _, _ => none
  | n + 1, x2, x3, σ => if (σ o0 5) ≤ x3 then (some (.inr (x2, x3))) else ((fX3_at (o0 + 1) x3 σ).bind fun v18 => if (x2 + v18) ≤ x1 then (fX10_quireOf_l4 o0 x1 n (x2 + v18) (x3 + (1 : Int32)) σ) else (some (.inl x3)))
set_option maxRecDepth 100000 in
set_option maxHeartbeats 4000000 in
theorem bX10_quireOf_l4 {p : Program} {l : Launch} {e : Env} {s : State} {m : MethodId} {args : Array Value} {below : List Frame} {meth : Method} {c : Code} {E : Ev} {b : Nat} (C : Cx p l s m args meth c E cX10_quireOf 4 RX10 (some .int)) (o0 : Nat) (x1 : Int32) (ho0 : kd o0 = 10) (σ : Mem) (r0 : Int32) {q0 : Int32 ⊕ (Int32 × Int32)} (hr : ∀ r, q0 = .inl r → r = r0) (hx : ∀ q, q0 = .inr q → ∀ H locs ls, Wd E (LC E b) σ H → va_S (La (LC E b)) s.heap H locs → lv_has ls 4 [(0, .ref (b + o0)), (1, .int x1), (2, .int q.1), (3, .int q.2)] → W p l e { frames := 1, cells := 0, slots := 0, locals := 21 } s m args below meth c H locs 0 0 (MQ below (Qz E (LC E b) (some (.int r0)) σ) args s 0 0 (La (LC E b))) (F0 m 36 ls [])) : ∀ (n : Nat) (x2 : Int32) (x3 : Int32), fX10_quireOf_l4 o0 x1 n x2 x3 σ = some q0 → ∀ (H : Heap) (locs : List Loc) (ls : Array Slot), Wd E (LC E b) σ H → va_S (La (LC E b)) s.heap H locs → lv_has ls 4 [(0, .ref (b + o0)), (1, .int x1), (2, .int x2), (3, .int x3)] → W p l e { frames := 1, cells := 0, slots := 0, locals := 21 } s m args below meth c H locs 0 0 (MQ below (Qz E (LC E b) (some (.int r0)) σ) args s 0 0 (La (LC E b))) (F0 m 4 ls []) := by
  have hx0 := C.1
  have hb := C.2.1
  intro n
  induction n with
  | zero => intro x2 x3 h; simp [fX10_quireOf_l4] at h
  | succ n ih =>
    intro x2 x3 h H locs ls hW hS hl
    unfold fX10_quireOf_l4 at h
    refine lv_iload_n hx0 hb dX10_quireOf_4 rfl (lv_at hl 3 rfl) ?_
    refine lv_aload_n hx0 hb dX10_quireOf_5 rfl (lv_at hl 0 rfl) ?_
    refine gtX10_5 (k := o0) C hW ho0 flX10_32 dX10_quireOf_6 ?_
    refine lv_icmp_ge (tgt := 36) hx0 hb dX10_quireOf_9 (by decide) (fun c9 => ?_) (fun c9 => ?_)
    · rw [if_pos c9] at h
      cases h
      exact hx _ rfl _ _ _ hW hS (lv_sub hl [0, 1, 2, 3] rfl)
    · rw [if_neg c9] at h
      refine lv_iload_n hx0 hb dX10_quireOf_12 rfl (lv_at hl 2 rfl) ?_
      refine lv_aload_n hx0 hb dX10_quireOf_13 rfl (lv_at hl 0 rfl) ?_
      refine gtX10_0 (k := o0) C hW ho0 flX10_14 dX10_quireOf_14 ?_
      refine lv_iload_n hx0 hb dX10_quireOf_17 rfl (lv_at hl 3 rfl) ?_
      obtain ⟨v18, h18, h⟩ := bnd h
      try dsimp only at h
      refine w_callV (L := (LC E b)) (k := o0 + 1) (As := [.int x3]) (rest := [.int x2]) C hW hS (kdlt (chX10_0 ho0) (by decide)) (ccX3 (chX10_0 ho0)) kcX3 (mX3_at (o0 + 1) x3 (chX10_0 ho0) σ v18 h18) cwX3_at cvX3_at rfl mlX10_58 ⟨by decide, by decide⟩ rfl hl.1 (Nat.le_of_ble_eq_true rfl) ⟨by decide, by decide⟩ dX10_quireOf_18 rfl (fun H locs hW hS => ?_)
      refine lv_iadd hx0 hb dX10_quireOf_21 ?_
      refine lv_istore_n (lv' := [(2, .int (x2 + v18)), (0, .ref (b + o0)), (1, .int x1), (3, .int x3)]) hx0 hb dX10_quireOf_22 rfl hl (by decide) rfl (fun ls hl => ?_)
      refine lv_iload_n hx0 hb dX10_quireOf_23 rfl (lv_at hl 2 rfl) ?_
      refine lv_iload_n hx0 hb dX10_quireOf_24 rfl (lv_at hl 0 rfl) ?_
      refine lv_icmp_ge (tgt := 30) hx0 hb dX10_quireOf_25 (by decide) (fun c25 => ?_) (fun c25 => ?_)
      · rw [if_pos c25] at h
        refine lv_iinc (v := x3 + (1 : Int32)) (lv' := [(3, .int (x3 + (1 : Int32))), (2, .int (x2 + v18)), (0, .ref (b + o0)), (1, .int x1)]) hx0 hb dX10_quireOf_30 hl (k := 3) rfl rfl (by decide) rfl (fun ls hl => ?_)
        refine lv_goto (tgt := 4) hx0 hb dX10_quireOf_33 (by decide) ?_
        exact ih (x2 + v18) (x3 + (1 : Int32)) h _ _ _ hW hS (lv_sub hl [2, 3, 1, 0] rfl)
      · rw [if_neg c25] at h
        refine lv_iload_n hx0 hb dX10_quireOf_28 rfl (lv_at hl 3 rfl) ?_
        cases h
        cases hr _ rfl
        exact w_iret C hW hS dX10_quireOf_29
def fX10_quireOf (o0 : Nat) (x1 : Int32) (σ : Mem) : Option Int32 :=
  (fX10_quireOf_l4 o0 x1 FU (0 : Int32) (0 : Int32) σ).bind fun q4 => match q4 with | .inl r => some r | .inr q4 => some (-1 : Int32)
set_option maxRecDepth 100000 in
set_option maxHeartbeats 4000000 in
theorem mX10_quireOf {l : Launch} {E : Ev} {b : Nat} (o0 : Nat) (x1 : Int32) (ho0 : kd o0 = 10) (σ : Mem) (r : Int32) (h : fX10_quireOf o0 x1 σ = some r) : Met l yX10_quireOf (tw yX10_quireOf cX10_quireOf 4 (some .int)) { frames := 1, cells := 0, slots := 0, locals := 21 } (va_Pc [.ref (b + o0), .int x1] (Pr l E (LC E b) σ)) (Qz E (LC E b) (some (.int r)) σ) 0 0 (La (LC E b)) := by
  refine ct_of (by decide) (Nat.le_of_ble_eq_true rfl) ?_
  intro p e s m below meth c C hW hS ls hl
  have hx0 := C.1
  have hb := C.2.1
  have hl : lv_has ls 4 [(0, .ref (b + o0)), (1, .int x1)] := hl
  unfold fX10_quireOf at h
  refine lv_iconst (v := (0 : Int32)) hx0 hb dX10_quireOf_0 (by decide) ?_
  refine lv_istore_n (lv' := [(2, .int (0 : Int32)), (0, .ref (b + o0)), (1, .int x1)]) hx0 hb dX10_quireOf_1 rfl hl (by decide) rfl (fun ls hl => ?_)
  refine lv_iconst (v := (0 : Int32)) hx0 hb dX10_quireOf_2 (by decide) ?_
  refine lv_istore_n (lv' := [(3, .int (0 : Int32)), (2, .int (0 : Int32)), (0, .ref (b + o0)), (1, .int x1)]) hx0 hb dX10_quireOf_3 rfl hl (by decide) rfl (fun ls hl => ?_)
  obtain ⟨q4, h4, h⟩ := bnd h
  refine bX10_quireOf_l4 C o0 x1 ho0 σ r (q0 := q4) ?_ ?_ FU (0 : Int32) (0 : Int32) h4 _ _ _ hW hS (lv_sub hl [2, 3, 1, 0] rfl)
  · intro r1 hq; subst hq; (try dsimp only at h); exact Option.some.inj h
  · intro q4 hq H locs ls hW hS hl
    subst hq; try dsimp only at h
    refine lv_iconst (v := (-1 : Int32)) hx0 hb dX10_quireOf_36 (by decide) ?_
    cases h
    exact w_iret C hW hS dX10_quireOf_37
def fX10_firstLeafOf_l4 (o0 : Nat) (x1 : Int32) : Nat → Int32 → Int32 → Mem → Option (Int32 × Int32)
  | 0, _, _, _ => none
  | n + 1, x2, x3, σ => if x1 ≤ x3 then (some (x2, x3)) else ((fX3_at (o0 + 1) x3 σ).bind fun v15 => fX10_firstLeafOf_l4 o0 x1 n (x2 + v15) (x3 + (1 : Int32)) σ)
set_option maxRecDepth 100000 in
set_option maxHeartbeats 4000000 in
theorem bX10_firstLeafOf_l4 {p : Program} {l : Launch} {e : Env} {s : State} {m : MethodId} {args : Array Value} {below : List Frame} {meth : Method} {c : Code} {E : Ev} {b : Nat} (C : Cx p l s m args meth c E cX10_firstLeafOf 4 RX10 (some .int)) (o0 : Nat) (x1 : Int32) (ho0 : kd o0 = 10) (σ : Mem) {Qf : State → Prop} {q : Int32 × Int32} (hx : ∀ H locs ls, Wd E (LC E b) σ H → va_S (La (LC E b)) s.heap H locs → lv_has ls 4 [(0, .ref (b + o0)), (1, .int x1), (2, .int q.1), (3, .int q.2)] → W p l e { frames := 1, cells := 0, slots := 0, locals := 21 } s m args below meth c H locs 0 0 Qf (F0 m 26 ls [])) : ∀ (n : Nat) (x2 : Int32) (x3 : Int32), fX10_firstLeafOf_l4 o0 x1 n x2 x3 σ = some q → ∀ (H : Heap) (locs : List Loc) (ls : Array Slot), Wd E (LC E b) σ H → va_S (La (LC E b)) s.heap H locs → lv_has ls 4 [(0, .ref (b + o0)), (1, .int x1), (2, .int x2), (3, .int x3)] → W p l e { frames := 1, cells := 0, slots := 0, locals := 21 } s m args below meth c H locs 0 0 Qf (F0 m 4 ls []) := by
  have hx0 := C.1
  have hb := C.2.1
  intro n
  induction n with
  | zero => intro x2 x3 h; simp [fX10_firstLeafOf_l4] at h
  | succ n ih =>
    intro x2 x3 h H locs ls hW hS hl
    unfold fX10_firstLeafOf_l4 at h
    refine lv_iload_n hx0 hb dX10_firstLeafOf_4 rfl (lv_at hl 3 rfl) ?_
    refine lv_iload_n hx0 hb dX10_firstLeafOf_5 rfl (lv_at hl 1 rfl) ?_
    refine lv_icmp_ge (tgt := 26) hx0 hb dX10_firstLeafOf_6 (by decide) (fun c6 => ?_) (fun c6 => ?_)
    · rw [if_pos c6] at h
      cases h
      exact hx _ _ _ hW hS (lv_sub hl [0, 1, 2, 3] rfl)
    · rw [if_neg c6] at h
      refine lv_iload_n hx0 hb dX10_firstLeafOf_9 rfl (lv_at hl 2 rfl) ?_
      refine lv_aload_n hx0 hb dX10_firstLeafOf_10 rfl (lv_at hl 0 rfl) ?_
      refine gtX10_0 (k := o0) C hW ho0 flX10_14 dX10_firstLeafOf_11 ?_
      refine lv_iload_n hx0 hb dX10_firstLeafOf_14 rfl (lv_at hl 3 rfl) ?_
      obtain ⟨v15, h15, h⟩ := bnd h
      try dsimp only at h
      refine w_callV (L := (LC E b)) (k := o0 + 1) (As := [.int x3]) (rest := [.int x2]) C hW hS (kdlt (chX10_0 ho0) (by decide)) (ccX3 (chX10_0 ho0)) kcX3 (mX3_at (o0 + 1) x3 (chX10_0 ho0) σ v15 h15) cwX3_at cvX3_at rfl mlX10_58 ⟨by decide, by decide⟩ rfl hl.1 (Nat.le_of_ble_eq_true rfl) ⟨by decide, by decide⟩ dX10_firstLeafOf_15 rfl (fun H locs hW hS => ?_)
      refine lv_iadd hx0 hb dX10_firstLeafOf_18 ?_
      refine lv_istore_n (lv' := [(2, .int (x2 + v15)), (0, .ref (b + o0)), (1, .int x1), (3, .int x3)]) hx0 hb dX10_firstLeafOf_19 rfl hl (by decide) rfl (fun ls hl => ?_)
      refine lv_iinc (v := x3 + (1 : Int32)) (lv' := [(3, .int (x3 + (1 : Int32))), (2, .int (x2 + v15)), (0, .ref (b + o0)), (1, .int x1)]) hx0 hb dX10_firstLeafOf_20 hl (k := 3) rfl rfl (by decide) rfl (fun ls hl => ?_)
      refine lv_goto (tgt := 4) hx0 hb dX10_firstLeafOf_23 (by decide) ?_
      exact ih (x2 + v15) (x3 + (1 : Int32)) h _ _ _ hW hS (lv_sub hl [2, 3, 1, 0] rfl)
def fX10_firstLeafOf (o0 : Nat) (x1 : Int32) (σ : Mem) : Option Int32 :=
  (fX10_firstLeafOf_l4 o0 x1 FU (0 : Int32) (0 : Int32) σ).bind fun q4 => some q4.1
set_option maxRecDepth 100000 in
set_option maxHeartbeats 4000000 in
theorem mX10_firstLeafOf {l : Launch} {E : Ev} {b : Nat} (o0 : Nat) (x1 : Int32) (ho0 : kd o0 = 10) (σ : Mem) (r : Int32) (h : fX10_firstLeafOf o0 x1 σ = some r) : Met l yX10_firstLeafOf (tw yX10_firstLeafOf cX10_firstLeafOf 4 (some .int)) { frames := 1, cells := 0, slots := 0, locals := 21 } (va_Pc [.ref (b + o0), .int x1] (Pr l E (LC E b) σ)) (Qz E (LC E b) (some (.int r)) σ) 0 0 (La (LC E b)) := by
  refine ct_of (by decide) (Nat.le_of_ble_eq_true rfl) ?_
  intro p e s m below meth c C hW hS ls hl
  have hx0 := C.1
  have hb := C.2.1
  have hl : lv_has ls 4 [(0, .ref (b + o0)), (1, .int x1)] := hl
  unfold fX10_firstLeafOf at h
  refine lv_iconst (v := (0 : Int32)) hx0 hb dX10_firstLeafOf_0 (by decide) ?_
  refine lv_istore_n (lv' := [(2, .int (0 : Int32)), (0, .ref (b + o0)), (1, .int x1)]) hx0 hb dX10_firstLeafOf_1 rfl hl (by decide) rfl (fun ls hl => ?_)
  refine lv_iconst (v := (0 : Int32)) hx0 hb dX10_firstLeafOf_2 (by decide) ?_
  refine lv_istore_n (lv' := [(3, .int (0 : Int32)), (2, .int (0 : Int32)), (0, .ref (b + o0)), (1, .int x1)]) hx0 hb dX10_firstLeafOf_3 rfl hl (by decide) rfl (fun ls hl => ?_)
  obtain ⟨q4, h4, h⟩ := bnd h
  try dsimp only at h
  refine bX10_firstLeafOf_l4 C o0 x1 ho0 σ (q := q4) ?_ FU (0 : Int32) (0 : Int32) h4 _ _ _ hW hS (lv_sub hl [2, 3, 1, 0] rfl)
  intro H locs ls hW hS hl
  refine lv_iload_n hx0 hb dX10_firstLeafOf_26 rfl (lv_at hl 2 rfl) ?_
  cases h
  exact w_iret C hW hS dX10_firstLeafOf_27
def fX10_indexInQuire (o0 : Nat) (x1 : Int32) (σ : Mem) : Option Int32 :=
  (fX10_quireOf o0 x1 σ).bind fun v4 => (fX10_firstLeafOf o0 v4 σ).bind fun v7 => some (x1 - v7)
set_option maxRecDepth 100000 in
set_option maxHeartbeats 4000000 in
theorem mX10_indexInQuire {l : Launch} {E : Ev} {b : Nat} (o0 : Nat) (x1 : Int32) (ho0 : kd o0 = 10) (σ : Mem) (r : Int32) (h : fX10_indexInQuire o0 x1 σ = some r) : Met l yX10_indexInQuire (tw yX10_indexInQuire cX10_indexInQuire 2 (some .int)) { frames := 2, cells := 0, slots := 0, locals := 44 } (va_Pc [.ref (b + o0), .int x1] (Pr l E (LC E b) σ)) (Qz E (LC E b) (some (.int r)) σ) 0 0 (La (LC E b)) := by
  refine ct_of (by decide) (Nat.le_of_ble_eq_true rfl) ?_
  intro p e s m below meth c C hW hS ls hl
  have hx0 := C.1
  have hb := C.2.1
  have hl : lv_has ls 2 [(0, .ref (b + o0)), (1, .int x1)] := hl
  unfold fX10_indexInQuire at h
  refine lv_iload_n hx0 hb dX10_indexInQuire_0 rfl (lv_at hl 1 rfl) ?_
  refine lv_aload_n hx0 hb dX10_indexInQuire_1 rfl (lv_at hl 0 rfl) ?_
  refine lv_aload_n hx0 hb dX10_indexInQuire_2 rfl (lv_at hl 0 rfl) ?_
  refine lv_iload_n hx0 hb dX10_indexInQuire_3 rfl (lv_at hl 1 rfl) ?_
  obtain ⟨v4, h4, h⟩ := bnd h
  try dsimp only at h
  refine w_callV (L := (LC E b)) (k := o0) (As := [.int x1]) (rest := [.ref (b + o0), .int x1]) C hW hS (kdlt ho0 (by decide)) (ccX10 ho0) kcX10 (mX10_quireOf o0 x1 ho0 σ v4 h4) cwX10_quireOf cvX10_quireOf rfl mlX10_62 ⟨by decide, by decide⟩ rfl hl.1 (Nat.le_of_ble_eq_true rfl) ⟨by decide, by decide⟩ dX10_indexInQuire_4 rfl (fun H locs hW hS => ?_)
  obtain ⟨v7, h7, h⟩ := bnd h
  try dsimp only at h
  refine w_callV (L := (LC E b)) (k := o0) (As := [.int v4]) (rest := [.int x1]) C hW hS (kdlt ho0 (by decide)) (ccX10 ho0) kcX10 (mX10_firstLeafOf o0 v4 ho0 σ v7 h7) cwX10_firstLeafOf cvX10_firstLeafOf rfl mlX10_65 ⟨by decide, by decide⟩ rfl hl.1 (Nat.le_of_ble_eq_true rfl) ⟨by decide, by decide⟩ dX10_indexInQuire_7 rfl (fun H locs hW hS => ?_)
  refine lv_isub hx0 hb dX10_indexInQuire_10 ?_
  cases h
  exact w_iret C hW hS dX10_indexInQuire_11
def fX10_conjugateOf (o0 : Nat) (x1 : Int32) (σ : Mem) : Option Int32 :=
  (fX10_quireOf o0 x1 σ).bind fun v2 => (fX10_firstLeafOf o0 v2 σ).bind fun v8 => (fX3_at (o0 + 1) v2 σ).bind fun v16 => (fX10_indexInQuire o0 x1 σ).bind fun v24 => some (((v8 + v16) - (1 : Int32)) - v24)
set_option maxRecDepth 100000 in
set_option maxHeartbeats 4000000 in
theorem mX10_conjugateOf {l : Launch} {E : Ev} {b : Nat} (o0 : Nat) (x1 : Int32) (ho0 : kd o0 = 10) (σ : Mem) (r : Int32) (h : fX10_conjugateOf o0 x1 σ = some r) : Met l yX10_conjugateOf (tw yX10_conjugateOf cX10_conjugateOf 3 (some .int)) { frames := 3, cells := 0, slots := 0, locals := 65 } (va_Pc [.ref (b + o0), .int x1] (Pr l E (LC E b) σ)) (Qz E (LC E b) (some (.int r)) σ) 0 0 (La (LC E b)) := by
  refine ct_of (by decide) (Nat.le_of_ble_eq_true rfl) ?_
  intro p e s m below meth c C hW hS ls hl
  have hx0 := C.1
  have hb := C.2.1
  have hl : lv_has ls 3 [(0, .ref (b + o0)), (1, .int x1)] := hl
  unfold fX10_conjugateOf at h
  refine lv_aload_n hx0 hb dX10_conjugateOf_0 rfl (lv_at hl 0 rfl) ?_
  refine lv_iload_n hx0 hb dX10_conjugateOf_1 rfl (lv_at hl 1 rfl) ?_
  obtain ⟨v2, h2, h⟩ := bnd h
  try dsimp only at h
  refine w_callV (L := (LC E b)) (k := o0) (As := [.int x1]) (rest := []) C hW hS (kdlt ho0 (by decide)) (ccX10 ho0) kcX10 (mX10_quireOf o0 x1 ho0 σ v2 h2) cwX10_quireOf cvX10_quireOf rfl mlX10_62 ⟨by decide, by decide⟩ rfl hl.1 (Nat.le_of_ble_eq_true rfl) ⟨by decide, by decide⟩ dX10_conjugateOf_2 rfl (fun H locs hW hS => ?_)
  refine lv_istore_n (lv' := [(2, .int v2), (0, .ref (b + o0)), (1, .int x1)]) hx0 hb dX10_conjugateOf_5 rfl hl (by decide) rfl (fun ls hl => ?_)
  refine lv_aload_n hx0 hb dX10_conjugateOf_6 rfl (lv_at hl 1 rfl) ?_
  refine lv_iload_n hx0 hb dX10_conjugateOf_7 rfl (lv_at hl 0 rfl) ?_
  obtain ⟨v8, h8, h⟩ := bnd h
  try dsimp only at h
  refine w_callV (L := (LC E b)) (k := o0) (As := [.int v2]) (rest := []) C hW hS (kdlt ho0 (by decide)) (ccX10 ho0) kcX10 (mX10_firstLeafOf o0 v2 ho0 σ v8 h8) cwX10_firstLeafOf cvX10_firstLeafOf rfl mlX10_65 ⟨by decide, by decide⟩ rfl hl.1 (Nat.le_of_ble_eq_true rfl) ⟨by decide, by decide⟩ dX10_conjugateOf_8 rfl (fun H locs hW hS => ?_)
  refine lv_aload_n hx0 hb dX10_conjugateOf_11 rfl (lv_at hl 1 rfl) ?_
  refine gtX10_0 (k := o0) C hW ho0 flX10_14 dX10_conjugateOf_12 ?_
  refine lv_iload_n hx0 hb dX10_conjugateOf_15 rfl (lv_at hl 0 rfl) ?_
  obtain ⟨v16, h16, h⟩ := bnd h
  try dsimp only at h
  refine w_callV (L := (LC E b)) (k := o0 + 1) (As := [.int v2]) (rest := [.int v8]) C hW hS (kdlt (chX10_0 ho0) (by decide)) (ccX3 (chX10_0 ho0)) kcX3 (mX3_at (o0 + 1) v2 (chX10_0 ho0) σ v16 h16) cwX3_at cvX3_at rfl mlX10_58 ⟨by decide, by decide⟩ rfl hl.1 (Nat.le_of_ble_eq_true rfl) ⟨by decide, by decide⟩ dX10_conjugateOf_16 rfl (fun H locs hW hS => ?_)
  refine lv_iadd hx0 hb dX10_conjugateOf_19 ?_
  refine lv_iconst (v := (1 : Int32)) hx0 hb dX10_conjugateOf_20 (by decide) ?_
  refine lv_isub hx0 hb dX10_conjugateOf_21 ?_
  refine lv_aload_n hx0 hb dX10_conjugateOf_22 rfl (lv_at hl 1 rfl) ?_
  refine lv_iload_n hx0 hb dX10_conjugateOf_23 rfl (lv_at hl 2 rfl) ?_
  obtain ⟨v24, h24, h⟩ := bnd h
  try dsimp only at h
  refine w_callV (L := (LC E b)) (k := o0) (As := [.int x1]) (rest := [.int ((v8 + v16) - (1 : Int32))]) C hW hS (kdlt ho0 (by decide)) (ccX10 ho0) kcX10 (mX10_indexInQuire o0 x1 ho0 σ v24 h24) cwX10_indexInQuire cvX10_indexInQuire rfl mlX10_68 ⟨by decide, by decide⟩ rfl hl.1 (Nat.le_of_ble_eq_true rfl) ⟨by decide, by decide⟩ dX10_conjugateOf_24 rfl (fun H locs hW hS => ?_)
  refine lv_isub hx0 hb dX10_conjugateOf_27 ?_
  cases h
  exact w_iret C hW hS dX10_conjugateOf_28
def fX10_leafCount (o0 : Nat) (σ : Mem) : Option Int32 :=
  some (σ o0 6)
set_option maxRecDepth 100000 in
set_option maxHeartbeats 4000000 in
theorem mX10_leafCount {l : Launch} {E : Ev} {b : Nat} (o0 : Nat) (ho0 : kd o0 = 10) (σ : Mem) (r : Int32) (h : fX10_leafCount o0 σ = some r) : Met l yX10_leafCount (tw yX10_leafCount cX10_leafCount 1 (some .int)) { frames := 0, cells := 0, slots := 0, locals := 0 } (va_Pc [.ref (b + o0)] (Pr l E (LC E b) σ)) (Qz E (LC E b) (some (.int r)) σ) 0 0 (La (LC E b)) := by
  refine ct_of (by decide) (Nat.le_of_ble_eq_true rfl) ?_
  intro p e s m below meth c C hW hS ls hl
  have hx0 := C.1
  have hb := C.2.1
  have hl : lv_has ls 1 [(0, .ref (b + o0))] := hl
  unfold fX10_leafCount at h
  refine lv_aload_n hx0 hb dX10_leafCount_0 rfl (lv_at hl 0 rfl) ?_
  refine gtX10_6 (k := o0) C hW ho0 flX10_36 dX10_leafCount_1 ?_
  cases h
  exact w_iret C hW hS dX10_leafCount_4
def fX10_hasLeaf (o0 : Nat) (x1 : Int32) (σ : Mem) : Option Int32 :=
  if x1 < 0 then (some (0 : Int32)) else (if (σ o0 6) ≤ x1 then (some (0 : Int32)) else (some (1 : Int32)))
set_option maxRecDepth 100000 in
set_option maxHeartbeats 4000000 in
theorem mX10_hasLeaf {l : Launch} {E : Ev} {b : Nat} (o0 : Nat) (x1 : Int32) (ho0 : kd o0 = 10) (σ : Mem) (r : Int32) (h : fX10_hasLeaf o0 x1 σ = some r) : Met l yX10_hasLeaf (tw yX10_hasLeaf cX10_hasLeaf 2 (some .boolean)) { frames := 0, cells := 0, slots := 0, locals := 0 } (va_Pc [.ref (b + o0), .int x1] (Pr l E (LC E b) σ)) (Qz E (LC E b) (some (.int r)) σ) 0 0 (La (LC E b)) := by
  refine ct_of (by decide) (Nat.le_of_ble_eq_true rfl) ?_
  intro p e s m below meth c C hW hS ls hl
  have hx0 := C.1
  have hb := C.2.1
  have hl : lv_has ls 2 [(0, .ref (b + o0)), (1, .int x1)] := hl
  unfold fX10_hasLeaf at h
  refine lv_iload_n hx0 hb dX10_hasLeaf_0 rfl (lv_at hl 1 rfl) ?_
  refine lv_if_lt (tgt := 16) hx0 hb dX10_hasLeaf_1 (by decide) (fun c1 => ?_) (fun c1 => ?_)
  · rw [if_pos c1] at h
    refine lv_iconst (v := (0 : Int32)) hx0 hb dX10_hasLeaf_16 (by decide) ?_
    cases h
    exact w_zret C hW hS (Or.inl rfl) dX10_hasLeaf_17
  · rw [if_neg c1] at h
    refine lv_iload_n hx0 hb dX10_hasLeaf_4 rfl (lv_at hl 1 rfl) ?_
    refine lv_aload_n hx0 hb dX10_hasLeaf_5 rfl (lv_at hl 0 rfl) ?_
    refine gtX10_6 (k := o0) C hW ho0 flX10_36 dX10_hasLeaf_6 ?_
    refine lv_icmp_ge (tgt := 16) hx0 hb dX10_hasLeaf_9 (by decide) (fun c9 => ?_) (fun c9 => ?_)
    · rw [if_pos c9] at h
      refine lv_iconst (v := (0 : Int32)) hx0 hb dX10_hasLeaf_16 (by decide) ?_
      cases h
      exact w_zret C hW hS (Or.inl rfl) dX10_hasLeaf_17
    · rw [if_neg c9] at h
      refine lv_iconst (v := (1 : Int32)) hx0 hb dX10_hasLeaf_12 (by decide) ?_
      refine lv_goto (tgt := 17) hx0 hb dX10_hasLeaf_13 (by decide) ?_
      cases h
      exact w_zret C hW hS (Or.inr rfl) dX10_hasLeaf_17
def fX10_isPresent (o0 : Nat) (x1 : Int32) (σ : Mem) : Option Int32 :=
  (fX10_hasLeaf o0 x1 σ).bind fun v2 => if v2 = 0 then (some (0 : Int32)) else ((fX3_at (o0 + 3) x1 σ).bind fun v13 => if v13 = 0 then (some (1 : Int32)) else (some (0 : Int32)))
set_option maxRecDepth 100000 in
set_option maxHeartbeats 4000000 in
theorem mX10_isPresent {l : Launch} {E : Ev} {b : Nat} (o0 : Nat) (x1 : Int32) (ho0 : kd o0 = 10) (σ : Mem) (r : Int32) (h : fX10_isPresent o0 x1 σ = some r) : Met l yX10_isPresent (tw yX10_isPresent cX10_isPresent 2 (some .boolean)) { frames := 1, cells := 0, slots := 0, locals := 21 } (va_Pc [.ref (b + o0), .int x1] (Pr l E (LC E b) σ)) (Qz E (LC E b) (some (.int r)) σ) 0 0 (La (LC E b)) := by
  refine ct_of (by decide) (Nat.le_of_ble_eq_true rfl) ?_
  intro p e s m below meth c C hW hS ls hl
  have hx0 := C.1
  have hb := C.2.1
  have hl : lv_has ls 2 [(0, .ref (b + o0)), (1, .int x1)] := hl
  unfold fX10_isPresent at h
  refine lv_aload_n hx0 hb dX10_isPresent_0 rfl (lv_at hl 0 rfl) ?_
  refine lv_iload_n hx0 hb dX10_isPresent_1 rfl (lv_at hl 1 rfl) ?_
  obtain ⟨v2, h2, h⟩ := bnd h
  try dsimp only at h
  refine w_callV (L := (LC E b)) (k := o0) (As := [.int x1]) (rest := []) C hW hS (kdlt ho0 (by decide)) (ccX10 ho0) kcX10 (mX10_hasLeaf o0 x1 ho0 σ v2 h2) cwX10_hasLeaf cvX10_hasLeaf rfl mlX10_71 ⟨by decide, by decide⟩ rfl hl.1 (Nat.le_of_ble_eq_true rfl) ⟨by decide, by decide⟩ dX10_isPresent_2 rfl (fun H locs hW hS => ?_)
  refine lv_if_eq (tgt := 23) hx0 hb dX10_isPresent_5 (by decide) (fun c5 => ?_) (fun c5 => ?_)
  · rw [if_pos c5] at h
    refine lv_iconst (v := (0 : Int32)) hx0 hb dX10_isPresent_23 (by decide) ?_
    cases h
    exact w_zret C hW hS (Or.inl rfl) dX10_isPresent_24
  · rw [if_neg c5] at h
    refine lv_aload_n hx0 hb dX10_isPresent_8 rfl (lv_at hl 0 rfl) ?_
    refine gtX10_1 (k := o0) C hW ho0 flX10_20 dX10_isPresent_9 ?_
    refine lv_iload_n hx0 hb dX10_isPresent_12 rfl (lv_at hl 1 rfl) ?_
    obtain ⟨v13, h13, h⟩ := bnd h
    try dsimp only at h
    refine w_callV (L := (LC E b)) (k := o0 + 3) (As := [.int x1]) (rest := []) C hW hS (kdlt (chX10_1 ho0) (by decide)) (ccX3 (chX10_1 ho0)) kcX3 (mX3_at (o0 + 3) x1 (chX10_1 ho0) σ v13 h13) cwX3_at cvX3_at rfl mlX10_58 ⟨by decide, by decide⟩ rfl hl.1 (Nat.le_of_ble_eq_true rfl) ⟨by decide, by decide⟩ dX10_isPresent_13 rfl (fun H locs hW hS => ?_)
    refine lv_if_ne (tgt := 23) hx0 hb dX10_isPresent_16 (by decide) (fun c16 => ?_) (fun c16 => ?_)
    · rw [if_neg c16] at h
      refine lv_iconst (v := (0 : Int32)) hx0 hb dX10_isPresent_23 (by decide) ?_
      cases h
      exact w_zret C hW hS (Or.inl rfl) dX10_isPresent_24
    · rw [if_pos c16] at h
      refine lv_iconst (v := (1 : Int32)) hx0 hb dX10_isPresent_19 (by decide) ?_
      refine lv_goto (tgt := 24) hx0 hb dX10_isPresent_20 (by decide) ?_
      cases h
      exact w_zret C hW hS (Or.inr rfl) dX10_isPresent_24
def fX10_setMissing (o0 : Nat) (x1 : Int32) (x2 : Int32) (σ : Mem) : Option Mem :=
  if x2 = 0 then ((fX3_put (o0 + 3) x1 (0 : Int32) σ).bind fun v14 => some v14) else ((fX3_put (o0 + 3) x1 (1 : Int32) σ).bind fun v14 => some v14)
set_option maxRecDepth 100000 in
set_option maxHeartbeats 4000000 in
theorem mX10_setMissing {l : Launch} {E : Ev} {b : Nat} (o0 : Nat) (x1 : Int32) (x2 : Int32) (ho0 : kd o0 = 10) (σ : Mem) (r : Mem) (h : fX10_setMissing o0 x1 x2 σ = some r) : Met l yX10_setMissing (tw yX10_setMissing cX10_setMissing 3 none) { frames := 1, cells := 0, slots := 0, locals := 22 } (va_Pc [.ref (b + o0), .int x1, .int x2] (Pr l E (LC E b) σ)) (Qz E (LC E b) none r) 0 0 (La (LC E b)) := by
  refine ct_of (by decide) (Nat.le_of_ble_eq_true rfl) ?_
  intro p e s m below meth c C hW hS ls hl
  have hx0 := C.1
  have hb := C.2.1
  have hl : lv_has ls 3 [(0, .ref (b + o0)), (1, .int x1), (2, .int x2)] := hl
  unfold fX10_setMissing at h
  refine lv_aload_n hx0 hb dX10_setMissing_0 rfl (lv_at hl 0 rfl) ?_
  refine gtX10_1 (k := o0) C hW ho0 flX10_20 dX10_setMissing_1 ?_
  refine lv_iload_n hx0 hb dX10_setMissing_4 rfl (lv_at hl 1 rfl) ?_
  refine lv_iload_n hx0 hb dX10_setMissing_5 rfl (lv_at hl 2 rfl) ?_
  refine lv_if_eq (tgt := 13) hx0 hb dX10_setMissing_6 (by decide) (fun c6 => ?_) (fun c6 => ?_)
  · rw [if_pos c6] at h
    refine lv_iconst (v := (0 : Int32)) hx0 hb dX10_setMissing_13 (by decide) ?_
    obtain ⟨v14, h14, h⟩ := bnd h
    try dsimp only at h
    refine w_callV (L := (LC E b)) (k := o0 + 3) (As := [.int x1, .int (0 : Int32)]) (rest := []) C hW hS (kdlt (chX10_1 ho0) (by decide)) (ccX3 (chX10_1 ho0)) kcX3 (mX3_put (o0 + 3) x1 (0 : Int32) (chX10_1 ho0) σ v14 h14) cwX3_put cvX3_put rfl mlX10_54 ⟨by decide, by decide⟩ rfl hl.1 (Nat.le_of_ble_eq_true rfl) ⟨by decide, by decide⟩ dX10_setMissing_14 rfl (fun H locs hW hS => ?_)
    cases h
    exact w_vret C hW hS dX10_setMissing_17
  · rw [if_neg c6] at h
    refine lv_iconst (v := (1 : Int32)) hx0 hb dX10_setMissing_9 (by decide) ?_
    refine lv_goto (tgt := 14) hx0 hb dX10_setMissing_10 (by decide) ?_
    obtain ⟨v14, h14, h⟩ := bnd h
    try dsimp only at h
    refine w_callV (L := (LC E b)) (k := o0 + 3) (As := [.int x1, .int (1 : Int32)]) (rest := []) C hW hS (kdlt (chX10_1 ho0) (by decide)) (ccX3 (chX10_1 ho0)) kcX3 (mX3_put (o0 + 3) x1 (1 : Int32) (chX10_1 ho0) σ v14 h14) cwX3_put cvX3_put rfl mlX10_54 ⟨by decide, by decide⟩ rfl hl.1 (Nat.le_of_ble_eq_true rfl) ⟨by decide, by decide⟩ dX10_setMissing_14 rfl (fun H locs hW hS => ?_)
    cases h
    exact w_vret C hW hS dX10_setMissing_17
def fX10_presentBefore_l4 (o0 : Nat) (x1 : Int32) : Nat → Int32 → Int32 → Mem → Option (Int32 × Int32)
  | 0, _, _, _ => none
  | n + 1, x2, x3, σ => if x1 ≤ x3 then (some (x2, x3)) else ((fX10_isPresent o0 x3 σ).bind fun v11 => if v11 = 0 then (fX10_presentBefore_l4 o0 x1 n x2 (x3 + (1 : Int32)) σ) else (fX10_presentBefore_l4 o0 x1 n (x2 + (1 : Int32)) (x3 + (1 : Int32)) σ))
set_option maxRecDepth 100000 in
set_option maxHeartbeats 4000000 in
theorem bX10_presentBefore_l4 {p : Program} {l : Launch} {e : Env} {s : State} {m : MethodId} {args : Array Value} {below : List Frame} {meth : Method} {c : Code} {E : Ev} {b : Nat} (C : Cx p l s m args meth c E cX10_presentBefore 4 RX10 (some .int)) (o0 : Nat) (x1 : Int32) (ho0 : kd o0 = 10) (σ : Mem) {Qf : State → Prop} {q : Int32 × Int32} (hx : ∀ H locs ls, Wd E (LC E b) σ H → va_S (La (LC E b)) s.heap H locs → lv_has ls 4 [(0, .ref (b + o0)), (1, .int x1), (2, .int q.1), (3, .int q.2)] → W p l e { frames := 2, cells := 0, slots := 0, locals := 42 } s m args below meth c H locs 0 0 Qf (F0 m 26 ls [])) : ∀ (n : Nat) (x2 : Int32) (x3 : Int32), fX10_presentBefore_l4 o0 x1 n x2 x3 σ = some q → ∀ (H : Heap) (locs : List Loc) (ls : Array Slot), Wd E (LC E b) σ H → va_S (La (LC E b)) s.heap H locs → lv_has ls 4 [(0, .ref (b + o0)), (1, .int x1), (2, .int x2), (3, .int x3)] → W p l e { frames := 2, cells := 0, slots := 0, locals := 42 } s m args below meth c H locs 0 0 Qf (F0 m 4 ls []) := by
  have hx0 := C.1
  have hb := C.2.1
  intro n
  induction n with
  | zero => intro x2 x3 h; simp [fX10_presentBefore_l4] at h
  | succ n ih =>
    intro x2 x3 h H locs ls hW hS hl
    unfold fX10_presentBefore_l4 at h
    refine lv_iload_n hx0 hb dX10_presentBefore_4 rfl (lv_at hl 3 rfl) ?_
    refine lv_iload_n hx0 hb dX10_presentBefore_5 rfl (lv_at hl 1 rfl) ?_
    refine lv_icmp_ge (tgt := 26) hx0 hb dX10_presentBefore_6 (by decide) (fun c6 => ?_) (fun c6 => ?_)
    · rw [if_pos c6] at h
      cases h
      exact hx _ _ _ hW hS (lv_sub hl [0, 1, 2, 3] rfl)
    · rw [if_neg c6] at h
      refine lv_aload_n hx0 hb dX10_presentBefore_9 rfl (lv_at hl 0 rfl) ?_
      refine lv_iload_n hx0 hb dX10_presentBefore_10 rfl (lv_at hl 3 rfl) ?_
      obtain ⟨v11, h11, h⟩ := bnd h
      try dsimp only at h
      refine w_callV (L := (LC E b)) (k := o0) (As := [.int x3]) (rest := []) C hW hS (kdlt ho0 (by decide)) (ccX10 ho0) kcX10 (mX10_isPresent o0 x3 ho0 σ v11 h11) cwX10_isPresent cvX10_isPresent rfl mlX10_77 ⟨by decide, by decide⟩ rfl hl.1 (Nat.le_of_ble_eq_true rfl) ⟨by decide, by decide⟩ dX10_presentBefore_11 rfl (fun H locs hW hS => ?_)
      refine lv_if_eq (tgt := 20) hx0 hb dX10_presentBefore_14 (by decide) (fun c14 => ?_) (fun c14 => ?_)
      · rw [if_pos c14] at h
        refine lv_iinc (v := x3 + (1 : Int32)) (lv' := [(3, .int (x3 + (1 : Int32))), (0, .ref (b + o0)), (1, .int x1), (2, .int x2)]) hx0 hb dX10_presentBefore_20 hl (k := 3) rfl rfl (by decide) rfl (fun ls hl => ?_)
        refine lv_goto (tgt := 4) hx0 hb dX10_presentBefore_23 (by decide) ?_
        exact ih x2 (x3 + (1 : Int32)) h _ _ _ hW hS (lv_sub hl [1, 2, 3, 0] rfl)
      · rw [if_neg c14] at h
        refine lv_iinc (v := x2 + (1 : Int32)) (lv' := [(2, .int (x2 + (1 : Int32))), (0, .ref (b + o0)), (1, .int x1), (3, .int x3)]) hx0 hb dX10_presentBefore_17 hl (k := 2) rfl rfl (by decide) rfl (fun ls hl => ?_)
        refine lv_iinc (v := x3 + (1 : Int32)) (lv' := [(3, .int (x3 + (1 : Int32))), (2, .int (x2 + (1 : Int32))), (0, .ref (b + o0)), (1, .int x1)]) hx0 hb dX10_presentBefore_20 hl (k := 3) rfl rfl (by decide) rfl (fun ls hl => ?_)
        refine lv_goto (tgt := 4) hx0 hb dX10_presentBefore_23 (by decide) ?_
        exact ih (x2 + (1 : Int32)) (x3 + (1 : Int32)) h _ _ _ hW hS (lv_sub hl [2, 3, 1, 0] rfl)
def fX10_presentBefore (o0 : Nat) (x1 : Int32) (σ : Mem) : Option Int32 :=
  (fX10_presentBefore_l4 o0 x1 FU (0 : Int32) (0 : Int32) σ).bind fun q4 => some q4.1
set_option maxRecDepth 100000 in
set_option maxHeartbeats 4000000 in
theorem mX10_presentBefore {l : Launch} {E : Ev} {b : Nat} (o0 : Nat) (x1 : Int32) (ho0 : kd o0 = 10) (σ : Mem) (r : Int32) (h : fX10_presentBefore o0 x1 σ = some r) : Met l yX10_presentBefore (tw yX10_presentBefore cX10_presentBefore 4 (some .int)) { frames := 2, cells := 0, slots := 0, locals := 42 } (va_Pc [.ref (b + o0), .int x1] (Pr l E (LC E b) σ)) (Qz E (LC E b) (some (.int r)) σ) 0 0 (La (LC E b)) := by
  refine ct_of (by decide) (Nat.le_of_ble_eq_true rfl) ?_
  intro p e s m below meth c C hW hS ls hl
  have hx0 := C.1
  have hb := C.2.1
  have hl : lv_has ls 4 [(0, .ref (b + o0)), (1, .int x1)] := hl
  unfold fX10_presentBefore at h
  refine lv_iconst (v := (0 : Int32)) hx0 hb dX10_presentBefore_0 (by decide) ?_
  refine lv_istore_n (lv' := [(2, .int (0 : Int32)), (0, .ref (b + o0)), (1, .int x1)]) hx0 hb dX10_presentBefore_1 rfl hl (by decide) rfl (fun ls hl => ?_)
  refine lv_iconst (v := (0 : Int32)) hx0 hb dX10_presentBefore_2 (by decide) ?_
  refine lv_istore_n (lv' := [(3, .int (0 : Int32)), (2, .int (0 : Int32)), (0, .ref (b + o0)), (1, .int x1)]) hx0 hb dX10_presentBefore_3 rfl hl (by decide) rfl (fun ls hl => ?_)
  obtain ⟨q4, h4, h⟩ := bnd h
  try dsimp only at h
  refine bX10_presentBefore_l4 C o0 x1 ho0 σ (q := q4) ?_ FU (0 : Int32) (0 : Int32) h4 _ _ _ hW hS (lv_sub hl [2, 3, 1, 0] rfl)
  intro H locs ls hW hS hl
  refine lv_iload_n hx0 hb dX10_presentBefore_26 rfl (lv_at hl 2 rfl) ?_
  cases h
  exact w_iret C hW hS dX10_presentBefore_27
def fX10_presentCount (o0 : Nat) (σ : Mem) : Option Int32 :=
  (fX10_presentBefore o0 (σ o0 6) σ).bind fun v5 => some v5
set_option maxRecDepth 100000 in
set_option maxHeartbeats 4000000 in
theorem mX10_presentCount {l : Launch} {E : Ev} {b : Nat} (o0 : Nat) (ho0 : kd o0 = 10) (σ : Mem) (r : Int32) (h : fX10_presentCount o0 σ = some r) : Met l yX10_presentCount (tw yX10_presentCount cX10_presentCount 1 (some .int)) { frames := 3, cells := 0, slots := 0, locals := 65 } (va_Pc [.ref (b + o0)] (Pr l E (LC E b) σ)) (Qz E (LC E b) (some (.int r)) σ) 0 0 (La (LC E b)) := by
  refine ct_of (by decide) (Nat.le_of_ble_eq_true rfl) ?_
  intro p e s m below meth c C hW hS ls hl
  have hx0 := C.1
  have hb := C.2.1
  have hl : lv_has ls 1 [(0, .ref (b + o0))] := hl
  unfold fX10_presentCount at h
  refine lv_aload_n hx0 hb dX10_presentCount_0 rfl (lv_at hl 0 rfl) ?_
  refine lv_aload_n hx0 hb dX10_presentCount_1 rfl (lv_at hl 0 rfl) ?_
  refine gtX10_6 (k := o0) C hW ho0 flX10_36 dX10_presentCount_2 ?_
  obtain ⟨v5, h5, h⟩ := bnd h
  try dsimp only at h
  refine w_callV (L := (LC E b)) (k := o0) (As := [.int (σ o0 6)]) (rest := []) C hW hS (kdlt ho0 (by decide)) (ccX10 ho0) kcX10 (mX10_presentBefore o0 (σ o0 6) ho0 σ v5 h5) cwX10_presentBefore cvX10_presentBefore rfl mlX10_74 ⟨by decide, by decide⟩ rfl hl.1 (Nat.le_of_ble_eq_true rfl) ⟨by decide, by decide⟩ dX10_presentCount_5 rfl (fun H locs hW hS => ?_)
  cases h
  exact w_iret C hW hS dX10_presentCount_8
def fX10_presentLeaf_l4 (o0 : Nat) (x1 : Int32) : Nat → Int32 → Int32 → Mem → Option (Int32 ⊕ (Int32 × Int32))
  | 0, _, _, _ => none
  | n + 1, x2, x3, σ => if (σ o0 6) ≤ x3 then (some (.inr (x2, x3))) else ((fX10_isPresent o0 x3 σ).bind fun v14 => if v14 = 0 then (fX10_presentLeaf_l4 o0 x1 n x2 (x3 + (1 : Int32)) σ) else (if x2 = x1 then (some (.inl x3)) else (fX10_presentLeaf_l4 o0 x1 n (x2 + (1 : Int32)) (x3 + (1 : Int32)) σ)))
set_option maxRecDepth 100000 in
set_option maxHeartbeats 4000000 in
theorem bX10_presentLeaf_l4 {p : Program} {l : Launch} {e : Env} {s : State} {m : MethodId} {args : Array Value} {below : List Frame} {meth : Method} {c : Code} {E : Ev} {b : Nat} (C : Cx p l s m args meth c E cX10_presentLeaf 4 RX10 (some .int)) (o0 : Nat) (x1 : Int32) (ho0 : kd o0 = 10) (σ : Mem) (r0 : Int32) {q0 : Int32 ⊕ (Int32 × Int32)} (hr : ∀ r, q0 = .inl r → r = r0) (hx : ∀ q, q0 = .inr q → ∀ H locs ls, Wd E (LC E b) σ H → va_S (La (LC E b)) s.heap H locs → lv_has ls 4 [(0, .ref (b + o0)), (1, .int x1), (2, .int q.1), (3, .int q.2)] → W p l e { frames := 2, cells := 0, slots := 0, locals := 42 } s m args below meth c H locs 0 0 (MQ below (Qz E (LC E b) (some (.int r0)) σ) args s 0 0 (La (LC E b))) (F0 m 36 ls [])) : ∀ (n : Nat) (x2 : Int32) (x3 : Int32), fX10_presentLeaf_l4 o0 x1 n x2 x3 σ = some q0 → ∀ (H : Heap) (locs : List Loc) (ls : Array Slot), Wd E (LC E b) σ H → va_S (La (LC E b)) s.heap H locs → lv_has ls 4 [(0, .ref (b + o0)), (1, .int x1), (2, .int x2), (3, .int x3)] → W p l e { frames := 2, cells := 0, slots := 0, locals := 42 } s m args below meth c H locs 0 0 (MQ below (Qz E (LC E b) (some (.int r0)) σ) args s 0 0 (La (LC E b))) (F0 m 4 ls []) := by
  have hx0 := C.1
  have hb := C.2.1
  intro n
  induction n with
  | zero => intro x2 x3 h; simp [fX10_presentLeaf_l4] at h
  | succ n ih =>
    intro x2 x3 h H locs ls hW hS hl
    unfold fX10_presentLeaf_l4 at h
    refine lv_iload_n hx0 hb dX10_presentLeaf_4 rfl (lv_at hl 3 rfl) ?_
    refine lv_aload_n hx0 hb dX10_presentLeaf_5 rfl (lv_at hl 0 rfl) ?_
    refine gtX10_6 (k := o0) C hW ho0 flX10_36 dX10_presentLeaf_6 ?_
    refine lv_icmp_ge (tgt := 36) hx0 hb dX10_presentLeaf_9 (by decide) (fun c9 => ?_) (fun c9 => ?_)
    · rw [if_pos c9] at h
      cases h
      exact hx _ rfl _ _ _ hW hS (lv_sub hl [0, 1, 2, 3] rfl)
    · rw [if_neg c9] at h
      refine lv_aload_n hx0 hb dX10_presentLeaf_12 rfl (lv_at hl 0 rfl) ?_
      refine lv_iload_n hx0 hb dX10_presentLeaf_13 rfl (lv_at hl 3 rfl) ?_
      obtain ⟨v14, h14, h⟩ := bnd h
      try dsimp only at h
      refine w_callV (L := (LC E b)) (k := o0) (As := [.int x3]) (rest := []) C hW hS (kdlt ho0 (by decide)) (ccX10 ho0) kcX10 (mX10_isPresent o0 x3 ho0 σ v14 h14) cwX10_isPresent cvX10_isPresent rfl mlX10_77 ⟨by decide, by decide⟩ rfl hl.1 (Nat.le_of_ble_eq_true rfl) ⟨by decide, by decide⟩ dX10_presentLeaf_14 rfl (fun H locs hW hS => ?_)
      refine lv_if_eq (tgt := 30) hx0 hb dX10_presentLeaf_17 (by decide) (fun c17 => ?_) (fun c17 => ?_)
      · rw [if_pos c17] at h
        refine lv_iinc (v := x3 + (1 : Int32)) (lv' := [(3, .int (x3 + (1 : Int32))), (0, .ref (b + o0)), (1, .int x1), (2, .int x2)]) hx0 hb dX10_presentLeaf_30 hl (k := 3) rfl rfl (by decide) rfl (fun ls hl => ?_)
        refine lv_goto (tgt := 4) hx0 hb dX10_presentLeaf_33 (by decide) ?_
        exact ih x2 (x3 + (1 : Int32)) h _ _ _ hW hS (lv_sub hl [1, 2, 3, 0] rfl)
      · rw [if_neg c17] at h
        refine lv_iload_n hx0 hb dX10_presentLeaf_20 rfl (lv_at hl 2 rfl) ?_
        refine lv_iload_n hx0 hb dX10_presentLeaf_21 rfl (lv_at hl 1 rfl) ?_
        refine lv_icmp_ne (tgt := 27) hx0 hb dX10_presentLeaf_22 (by decide) (fun c22 => ?_) (fun c22 => ?_)
        · rw [if_neg c22] at h
          refine lv_iinc (v := x2 + (1 : Int32)) (lv' := [(2, .int (x2 + (1 : Int32))), (0, .ref (b + o0)), (1, .int x1), (3, .int x3)]) hx0 hb dX10_presentLeaf_27 hl (k := 2) rfl rfl (by decide) rfl (fun ls hl => ?_)
          refine lv_iinc (v := x3 + (1 : Int32)) (lv' := [(3, .int (x3 + (1 : Int32))), (2, .int (x2 + (1 : Int32))), (0, .ref (b + o0)), (1, .int x1)]) hx0 hb dX10_presentLeaf_30 hl (k := 3) rfl rfl (by decide) rfl (fun ls hl => ?_)
          refine lv_goto (tgt := 4) hx0 hb dX10_presentLeaf_33 (by decide) ?_
          exact ih (x2 + (1 : Int32)) (x3 + (1 : Int32)) h _ _ _ hW hS (lv_sub hl [2, 3, 1, 0] rfl)
        · rw [if_pos c22] at h
          refine lv_iload_n hx0 hb dX10_presentLeaf_25 rfl (lv_at hl 3 rfl) ?_
          cases h
          cases hr _ rfl
          exact w_iret C hW hS dX10_presentLeaf_26
def fX10_presentLeaf (o0 : Nat) (x1 : Int32) (σ : Mem) : Option Int32 :=
  (fX10_presentLeaf_l4 o0 x1 FU (0 : Int32) (0 : Int32) σ).bind fun q4 => match q4 with | .inl r => some r | .inr q4 => some (-1 : Int32)
set_option maxRecDepth 100000 in
set_option maxHeartbeats 4000000 in
theorem mX10_presentLeaf {l : Launch} {E : Ev} {b : Nat} (o0 : Nat) (x1 : Int32) (ho0 : kd o0 = 10) (σ : Mem) (r : Int32) (h : fX10_presentLeaf o0 x1 σ = some r) : Met l yX10_presentLeaf (tw yX10_presentLeaf cX10_presentLeaf 4 (some .int)) { frames := 2, cells := 0, slots := 0, locals := 42 } (va_Pc [.ref (b + o0), .int x1] (Pr l E (LC E b) σ)) (Qz E (LC E b) (some (.int r)) σ) 0 0 (La (LC E b)) := by
  refine ct_of (by decide) (Nat.le_of_ble_eq_true rfl) ?_
  intro p e s m below meth c C hW hS ls hl
  have hx0 := C.1
  have hb := C.2.1
  have hl : lv_has ls 4 [(0, .ref (b + o0)), (1, .int x1)] := hl
  unfold fX10_presentLeaf at h
  refine lv_iconst (v := (0 : Int32)) hx0 hb dX10_presentLeaf_0 (by decide) ?_
  refine lv_istore_n (lv' := [(2, .int (0 : Int32)), (0, .ref (b + o0)), (1, .int x1)]) hx0 hb dX10_presentLeaf_1 rfl hl (by decide) rfl (fun ls hl => ?_)
  refine lv_iconst (v := (0 : Int32)) hx0 hb dX10_presentLeaf_2 (by decide) ?_
  refine lv_istore_n (lv' := [(3, .int (0 : Int32)), (2, .int (0 : Int32)), (0, .ref (b + o0)), (1, .int x1)]) hx0 hb dX10_presentLeaf_3 rfl hl (by decide) rfl (fun ls hl => ?_)
  obtain ⟨q4, h4, h⟩ := bnd h
  refine bX10_presentLeaf_l4 C o0 x1 ho0 σ r (q0 := q4) ?_ ?_ FU (0 : Int32) (0 : Int32) h4 _ _ _ hW hS (lv_sub hl [2, 3, 1, 0] rfl)
  · intro r1 hq; subst hq; (try dsimp only at h); exact Option.some.inj h
  · intro q4 hq H locs ls hW hS hl
    subst hq; try dsimp only at h
    refine lv_iconst (v := (-1 : Int32)) hx0 hb dX10_presentLeaf_36 (by decide) ?_
    cases h
    exact w_iret C hW hS dX10_presentLeaf_37
def fX10_countOpenings (o0 : Nat) (σ : Mem) : Option Int32 :=
  (fX10_presentCount o0 σ).bind fun v1 => some (v1 + (1 : Int32))
set_option maxRecDepth 100000 in
set_option maxHeartbeats 4000000 in
theorem mX10_countOpenings {l : Launch} {E : Ev} {b : Nat} (o0 : Nat) (ho0 : kd o0 = 10) (σ : Mem) (r : Int32) (h : fX10_countOpenings o0 σ = some r) : Met l yX10_countOpenings (tw yX10_countOpenings cX10_countOpenings 1 (some .int)) { frames := 4, cells := 0, slots := 0, locals := 85 } (va_Pc [.ref (b + o0)] (Pr l E (LC E b) σ)) (Qz E (LC E b) (some (.int r)) σ) 0 0 (La (LC E b)) := by
  refine ct_of (by decide) (Nat.le_of_ble_eq_true rfl) ?_
  intro p e s m below meth c C hW hS ls hl
  have hx0 := C.1
  have hb := C.2.1
  have hl : lv_has ls 1 [(0, .ref (b + o0))] := hl
  unfold fX10_countOpenings at h
  refine lv_aload_n hx0 hb dX10_countOpenings_0 rfl (lv_at hl 0 rfl) ?_
  obtain ⟨v1, h1, h⟩ := bnd h
  try dsimp only at h
  refine w_callV (L := (LC E b)) (k := o0) (As := []) (rest := []) C hW hS (kdlt ho0 (by decide)) (ccX10 ho0) kcX10 (mX10_presentCount o0 ho0 σ v1 h1) cwX10_presentCount cvX10_presentCount rfl mlX10_80 ⟨by decide, by decide⟩ rfl hl.1 (Nat.le_of_ble_eq_true rfl) ⟨by decide, by decide⟩ dX10_countOpenings_1 rfl (fun H locs hW hS => ?_)
  refine lv_iconst (v := (1 : Int32)) hx0 hb dX10_countOpenings_4 (by decide) ?_
  refine lv_iadd hx0 hb dX10_countOpenings_5 ?_
  cases h
  exact w_iret C hW hS dX10_countOpenings_6
def fX10_leftOf (o0 : Nat) (x1 : Int32) (σ : Mem) : Option Int32 :=
  (fX10_presentLeaf o0 (x1 - (1 : Int32)) σ).bind fun v4 => some v4
set_option maxRecDepth 100000 in
set_option maxHeartbeats 4000000 in
theorem mX10_leftOf {l : Launch} {E : Ev} {b : Nat} (o0 : Nat) (x1 : Int32) (ho0 : kd o0 = 10) (σ : Mem) (r : Int32) (h : fX10_leftOf o0 x1 σ = some r) : Met l yX10_leftOf (tw yX10_leftOf cX10_leftOf 2 (some .int)) { frames := 3, cells := 0, slots := 0, locals := 65 } (va_Pc [.ref (b + o0), .int x1] (Pr l E (LC E b) σ)) (Qz E (LC E b) (some (.int r)) σ) 0 0 (La (LC E b)) := by
  refine ct_of (by decide) (Nat.le_of_ble_eq_true rfl) ?_
  intro p e s m below meth c C hW hS ls hl
  have hx0 := C.1
  have hb := C.2.1
  have hl : lv_has ls 2 [(0, .ref (b + o0)), (1, .int x1)] := hl
  unfold fX10_leftOf at h
  refine lv_aload_n hx0 hb dX10_leftOf_0 rfl (lv_at hl 0 rfl) ?_
  refine lv_iload_n hx0 hb dX10_leftOf_1 rfl (lv_at hl 1 rfl) ?_
  refine lv_iconst (v := (1 : Int32)) hx0 hb dX10_leftOf_2 (by decide) ?_
  refine lv_isub hx0 hb dX10_leftOf_3 ?_
  obtain ⟨v4, h4, h⟩ := bnd h
  try dsimp only at h
  refine w_callV (L := (LC E b)) (k := o0) (As := [.int (x1 - (1 : Int32))]) (rest := []) C hW hS (kdlt ho0 (by decide)) (ccX10 ho0) kcX10 (mX10_presentLeaf o0 (x1 - (1 : Int32)) ho0 σ v4 h4) cwX10_presentLeaf cvX10_presentLeaf rfl mlX10_84 ⟨by decide, by decide⟩ rfl hl.1 (Nat.le_of_ble_eq_true rfl) ⟨by decide, by decide⟩ dX10_leftOf_4 rfl (fun H locs hW hS => ?_)
  cases h
  exact w_iret C hW hS dX10_leftOf_7
def fX10_rightOf (o0 : Nat) (x1 : Int32) (σ : Mem) : Option Int32 :=
  (fX10_presentLeaf o0 x1 σ).bind fun v2 => some v2
set_option maxRecDepth 100000 in
set_option maxHeartbeats 4000000 in
theorem mX10_rightOf {l : Launch} {E : Ev} {b : Nat} (o0 : Nat) (x1 : Int32) (ho0 : kd o0 = 10) (σ : Mem) (r : Int32) (h : fX10_rightOf o0 x1 σ = some r) : Met l yX10_rightOf (tw yX10_rightOf cX10_rightOf 2 (some .int)) { frames := 3, cells := 0, slots := 0, locals := 65 } (va_Pc [.ref (b + o0), .int x1] (Pr l E (LC E b) σ)) (Qz E (LC E b) (some (.int r)) σ) 0 0 (La (LC E b)) := by
  refine ct_of (by decide) (Nat.le_of_ble_eq_true rfl) ?_
  intro p e s m below meth c C hW hS ls hl
  have hx0 := C.1
  have hb := C.2.1
  have hl : lv_has ls 2 [(0, .ref (b + o0)), (1, .int x1)] := hl
  unfold fX10_rightOf at h
  refine lv_aload_n hx0 hb dX10_rightOf_0 rfl (lv_at hl 0 rfl) ?_
  refine lv_iload_n hx0 hb dX10_rightOf_1 rfl (lv_at hl 1 rfl) ?_
  obtain ⟨v2, h2, h⟩ := bnd h
  try dsimp only at h
  refine w_callV (L := (LC E b)) (k := o0) (As := [.int x1]) (rest := []) C hW hS (kdlt ho0 (by decide)) (ccX10 ho0) kcX10 (mX10_presentLeaf o0 x1 ho0 σ v2 h2) cwX10_presentLeaf cvX10_presentLeaf rfl mlX10_84 ⟨by decide, by decide⟩ rfl hl.1 (Nat.le_of_ble_eq_true rfl) ⟨by decide, by decide⟩ dX10_rightOf_2 rfl (fun H locs hW hS => ?_)
  cases h
  exact w_iret C hW hS dX10_rightOf_5
def fX10_gapOf (o0 : Nat) (x1 : Int32) (σ : Mem) : Option Int32 :=
  (fX10_leftOf o0 x1 σ).bind fun v2 => (fX10_rightOf o0 x1 σ).bind fun v8 => if v2 = (-1 : Int32) then (if v8 = (-1 : Int32) then (some ((σ o0 6) - (0 : Int32))) else (some (v8 - (0 : Int32)))) else (if v8 = (-1 : Int32) then (some ((σ o0 6) - (v2 + (1 : Int32)))) else (some (v8 - (v2 + (1 : Int32)))))
set_option maxRecDepth 100000 in
set_option maxHeartbeats 4000000 in
theorem mX10_gapOf {l : Launch} {E : Ev} {b : Nat} (o0 : Nat) (x1 : Int32) (ho0 : kd o0 = 10) (σ : Mem) (r : Int32) (h : fX10_gapOf o0 x1 σ = some r) : Met l yX10_gapOf (tw yX10_gapOf cX10_gapOf 6 (some .int)) { frames := 4, cells := 0, slots := 0, locals := 86 } (va_Pc [.ref (b + o0), .int x1] (Pr l E (LC E b) σ)) (Qz E (LC E b) (some (.int r)) σ) 0 0 (La (LC E b)) := by
  refine ct_of (by decide) (Nat.le_of_ble_eq_true rfl) ?_
  intro p e s m below meth c C hW hS ls hl
  have hx0 := C.1
  have hb := C.2.1
  have hl : lv_has ls 6 [(0, .ref (b + o0)), (1, .int x1)] := hl
  unfold fX10_gapOf at h
  refine lv_aload_n hx0 hb dX10_gapOf_0 rfl (lv_at hl 0 rfl) ?_
  refine lv_iload_n hx0 hb dX10_gapOf_1 rfl (lv_at hl 1 rfl) ?_
  obtain ⟨v2, h2, h⟩ := bnd h
  try dsimp only at h
  refine w_callV (L := (LC E b)) (k := o0) (As := [.int x1]) (rest := []) C hW hS (kdlt ho0 (by decide)) (ccX10 ho0) kcX10 (mX10_leftOf o0 x1 ho0 σ v2 h2) cwX10_leftOf cvX10_leftOf rfl mlX10_87 ⟨by decide, by decide⟩ rfl hl.1 (Nat.le_of_ble_eq_true rfl) ⟨by decide, by decide⟩ dX10_gapOf_2 rfl (fun H locs hW hS => ?_)
  refine lv_istore_n (lv' := [(2, .int v2), (0, .ref (b + o0)), (1, .int x1)]) hx0 hb dX10_gapOf_5 rfl hl (by decide) rfl (fun ls hl => ?_)
  refine lv_aload_n hx0 hb dX10_gapOf_6 rfl (lv_at hl 1 rfl) ?_
  refine lv_iload_n hx0 hb dX10_gapOf_7 rfl (lv_at hl 2 rfl) ?_
  obtain ⟨v8, h8, h⟩ := bnd h
  try dsimp only at h
  refine w_callV (L := (LC E b)) (k := o0) (As := [.int x1]) (rest := []) C hW hS (kdlt ho0 (by decide)) (ccX10 ho0) kcX10 (mX10_rightOf o0 x1 ho0 σ v8 h8) cwX10_rightOf cvX10_rightOf rfl mlX10_90 ⟨by decide, by decide⟩ rfl hl.1 (Nat.le_of_ble_eq_true rfl) ⟨by decide, by decide⟩ dX10_gapOf_8 rfl (fun H locs hW hS => ?_)
  refine lv_istore_n (lv' := [(3, .int v8), (2, .int v2), (0, .ref (b + o0)), (1, .int x1)]) hx0 hb dX10_gapOf_11 rfl hl (by decide) rfl (fun ls hl => ?_)
  refine lv_iload_n hx0 hb dX10_gapOf_12 rfl (lv_at hl 1 rfl) ?_
  refine lv_iconst (v := (-1 : Int32)) hx0 hb dX10_gapOf_13 (by decide) ?_
  refine lv_icmp_ne (tgt := 21) hx0 hb dX10_gapOf_14 (by decide) (fun c14 => ?_) (fun c14 => ?_)
  · rw [if_neg c14] at h
    refine lv_iload_n hx0 hb dX10_gapOf_21 rfl (lv_at hl 1 rfl) ?_
    refine lv_iconst (v := (1 : Int32)) hx0 hb dX10_gapOf_22 (by decide) ?_
    refine lv_iadd hx0 hb dX10_gapOf_23 ?_
    refine lv_istore (lv' := [(4, .int (v2 + (1 : Int32))), (3, .int v8), (2, .int v2), (0, .ref (b + o0)), (1, .int x1)]) hx0 hb dX10_gapOf_24 hl (by decide) rfl (fun ls hl => ?_)
    refine lv_iload_n hx0 hb dX10_gapOf_26 rfl (lv_at hl 1 rfl) ?_
    refine lv_iconst (v := (-1 : Int32)) hx0 hb dX10_gapOf_27 (by decide) ?_
    refine lv_icmp_ne (tgt := 38) hx0 hb dX10_gapOf_28 (by decide) (fun c28 => ?_) (fun c28 => ?_)
    · rw [if_neg c28] at h
      refine lv_iload_n hx0 hb dX10_gapOf_38 rfl (lv_at hl 1 rfl) ?_
      refine lv_istore (lv' := [(5, .int v8), (4, .int (v2 + (1 : Int32))), (3, .int v8), (2, .int v2), (0, .ref (b + o0)), (1, .int x1)]) hx0 hb dX10_gapOf_39 hl (by decide) rfl (fun ls hl => ?_)
      refine lv_iload hx0 hb dX10_gapOf_41 (lv_at hl 0 rfl) ?_
      refine lv_iload hx0 hb dX10_gapOf_43 (lv_at hl 1 rfl) ?_
      refine lv_isub hx0 hb dX10_gapOf_45 ?_
      cases h
      exact w_iret C hW hS dX10_gapOf_46
    · rw [if_pos c28] at h
      refine lv_aload_n hx0 hb dX10_gapOf_31 rfl (lv_at hl 3 rfl) ?_
      refine gtX10_6 (k := o0) C hW ho0 flX10_36 dX10_gapOf_32 ?_
      refine lv_goto (tgt := 39) hx0 hb dX10_gapOf_35 (by decide) ?_
      refine lv_istore (lv' := [(5, .int (σ o0 6)), (4, .int (v2 + (1 : Int32))), (3, .int v8), (2, .int v2), (0, .ref (b + o0)), (1, .int x1)]) hx0 hb dX10_gapOf_39 hl (by decide) rfl (fun ls hl => ?_)
      refine lv_iload hx0 hb dX10_gapOf_41 (lv_at hl 0 rfl) ?_
      refine lv_iload hx0 hb dX10_gapOf_43 (lv_at hl 1 rfl) ?_
      refine lv_isub hx0 hb dX10_gapOf_45 ?_
      cases h
      exact w_iret C hW hS dX10_gapOf_46
  · rw [if_pos c14] at h
    refine lv_iconst (v := (0 : Int32)) hx0 hb dX10_gapOf_17 (by decide) ?_
    refine lv_goto (tgt := 24) hx0 hb dX10_gapOf_18 (by decide) ?_
    refine lv_istore (lv' := [(4, .int (0 : Int32)), (3, .int v8), (2, .int v2), (0, .ref (b + o0)), (1, .int x1)]) hx0 hb dX10_gapOf_24 hl (by decide) rfl (fun ls hl => ?_)
    refine lv_iload_n hx0 hb dX10_gapOf_26 rfl (lv_at hl 1 rfl) ?_
    refine lv_iconst (v := (-1 : Int32)) hx0 hb dX10_gapOf_27 (by decide) ?_
    refine lv_icmp_ne (tgt := 38) hx0 hb dX10_gapOf_28 (by decide) (fun c28 => ?_) (fun c28 => ?_)
    · rw [if_neg c28] at h
      refine lv_iload_n hx0 hb dX10_gapOf_38 rfl (lv_at hl 1 rfl) ?_
      refine lv_istore (lv' := [(5, .int v8), (4, .int (0 : Int32)), (3, .int v8), (2, .int v2), (0, .ref (b + o0)), (1, .int x1)]) hx0 hb dX10_gapOf_39 hl (by decide) rfl (fun ls hl => ?_)
      refine lv_iload hx0 hb dX10_gapOf_41 (lv_at hl 0 rfl) ?_
      refine lv_iload hx0 hb dX10_gapOf_43 (lv_at hl 1 rfl) ?_
      refine lv_isub hx0 hb dX10_gapOf_45 ?_
      cases h
      exact w_iret C hW hS dX10_gapOf_46
    · rw [if_pos c28] at h
      refine lv_aload_n hx0 hb dX10_gapOf_31 rfl (lv_at hl 3 rfl) ?_
      refine gtX10_6 (k := o0) C hW ho0 flX10_36 dX10_gapOf_32 ?_
      refine lv_goto (tgt := 39) hx0 hb dX10_gapOf_35 (by decide) ?_
      refine lv_istore (lv' := [(5, .int (σ o0 6)), (4, .int (0 : Int32)), (3, .int v8), (2, .int v2), (0, .ref (b + o0)), (1, .int x1)]) hx0 hb dX10_gapOf_39 hl (by decide) rfl (fun ls hl => ?_)
      refine lv_iload hx0 hb dX10_gapOf_41 (lv_at hl 0 rfl) ?_
      refine lv_iload hx0 hb dX10_gapOf_43 (lv_at hl 1 rfl) ?_
      refine lv_isub hx0 hb dX10_gapOf_45 ?_
      cases h
      exact w_iret C hW hS dX10_gapOf_46
def fX10_slipCount (o0 : Nat) (σ : Mem) : Option Int32 :=
  some (σ o0 7)
set_option maxRecDepth 100000 in
set_option maxHeartbeats 4000000 in
theorem mX10_slipCount {l : Launch} {E : Ev} {b : Nat} (o0 : Nat) (ho0 : kd o0 = 10) (σ : Mem) (r : Int32) (h : fX10_slipCount o0 σ = some r) : Met l yX10_slipCount (tw yX10_slipCount cX10_slipCount 1 (some .int)) { frames := 0, cells := 0, slots := 0, locals := 0 } (va_Pc [.ref (b + o0)] (Pr l E (LC E b) σ)) (Qz E (LC E b) (some (.int r)) σ) 0 0 (La (LC E b)) := by
  refine ct_of (by decide) (Nat.le_of_ble_eq_true rfl) ?_
  intro p e s m below meth c C hW hS ls hl
  have hx0 := C.1
  have hb := C.2.1
  have hl : lv_has ls 1 [(0, .ref (b + o0))] := hl
  unfold fX10_slipCount at h
  refine lv_aload_n hx0 hb dX10_slipCount_0 rfl (lv_at hl 0 rfl) ?_
  refine gtX10_7 (k := o0) C hW ho0 flX10_39 dX10_slipCount_1 ?_
  cases h
  exact w_iret C hW hS dX10_slipCount_4
def fX10_takesSlip (o0 : Nat) (σ : Mem) : Option Int32 :=
  if (12 : Int32) ≤ (σ o0 7) then (some (0 : Int32)) else (some (1 : Int32))
set_option maxRecDepth 100000 in
set_option maxHeartbeats 4000000 in
theorem mX10_takesSlip {l : Launch} {E : Ev} {b : Nat} (o0 : Nat) (ho0 : kd o0 = 10) (σ : Mem) (r : Int32) (h : fX10_takesSlip o0 σ = some r) : Met l yX10_takesSlip (tw yX10_takesSlip cX10_takesSlip 1 (some .boolean)) { frames := 0, cells := 0, slots := 0, locals := 0 } (va_Pc [.ref (b + o0)] (Pr l E (LC E b) σ)) (Qz E (LC E b) (some (.int r)) σ) 0 0 (La (LC E b)) := by
  refine ct_of (by decide) (Nat.le_of_ble_eq_true rfl) ?_
  intro p e s m below meth c C hW hS ls hl
  have hx0 := C.1
  have hb := C.2.1
  have hl : lv_has ls 1 [(0, .ref (b + o0))] := hl
  unfold fX10_takesSlip at h
  refine lv_aload_n hx0 hb dX10_takesSlip_0 rfl (lv_at hl 0 rfl) ?_
  refine gtX10_7 (k := o0) C hW ho0 flX10_39 dX10_takesSlip_1 ?_
  refine lv_bipush (v := (12 : Int32)) hx0 hb dX10_takesSlip_4 (by decide) ?_
  refine lv_icmp_ge (tgt := 13) hx0 hb dX10_takesSlip_6 (by decide) (fun c6 => ?_) (fun c6 => ?_)
  · rw [if_pos c6] at h
    refine lv_iconst (v := (0 : Int32)) hx0 hb dX10_takesSlip_13 (by decide) ?_
    cases h
    exact w_zret C hW hS (Or.inl rfl) dX10_takesSlip_14
  · rw [if_neg c6] at h
    refine lv_iconst (v := (1 : Int32)) hx0 hb dX10_takesSlip_9 (by decide) ?_
    refine lv_goto (tgt := 14) hx0 hb dX10_takesSlip_10 (by decide) ?_
    cases h
    exact w_zret C hW hS (Or.inr rfl) dX10_takesSlip_14
def fX10_addSlip (o0 : Nat) (x1 : Int32) (x2 : Int32) (x3 : Int32) (σ : Mem) : Option Mem :=
  (fX10_takesSlip o0 σ).bind fun v1 => if v1 = 0 then (some σ) else ((fX3_put (o0 + 5) (σ o0 7) x1 σ).bind fun v16 => (fX3_put (o0 + 7) (v16 o0 7) x2 v16).bind fun v28 => (fX3_put (o0 + 9) (v28 o0 7) x3 v28).bind fun v40 => some (up v40 o0 7 ((v40 o0 7) + (1 : Int32))))
set_option maxRecDepth 100000 in
set_option maxHeartbeats 4000000 in
theorem mX10_addSlip {l : Launch} {E : Ev} {b : Nat} (o0 : Nat) (x1 : Int32) (x2 : Int32) (x3 : Int32) (ho0 : kd o0 = 10) (σ : Mem) (r : Mem) (h : fX10_addSlip o0 x1 x2 x3 σ = some r) : Met l yX10_addSlip (tw yX10_addSlip cX10_addSlip 4 none) { frames := 1, cells := 0, slots := 0, locals := 22 } (va_Pc [.ref (b + o0), .int x1, .int x2, .int x3] (Pr l E (LC E b) σ)) (Qz E (LC E b) none r) 0 0 (La (LC E b)) := by
  refine ct_of (by decide) (Nat.le_of_ble_eq_true rfl) ?_
  intro p e s m below meth c C hW hS ls hl
  have hx0 := C.1
  have hb := C.2.1
  have hl : lv_has ls 4 [(0, .ref (b + o0)), (1, .int x1), (2, .int x2), (3, .int x3)] := hl
  unfold fX10_addSlip at h
  refine lv_aload_n hx0 hb dX10_addSlip_0 rfl (lv_at hl 0 rfl) ?_
  obtain ⟨v1, h1, h⟩ := bnd h
  try dsimp only at h
  refine w_callV (L := (LC E b)) (k := o0) (As := []) (rest := []) C hW hS (kdlt ho0 (by decide)) (ccX10 ho0) kcX10 (mX10_takesSlip o0 ho0 σ v1 h1) cwX10_takesSlip cvX10_takesSlip rfl mlX10_93 ⟨by decide, by decide⟩ rfl hl.1 (Nat.le_of_ble_eq_true rfl) ⟨by decide, by decide⟩ dX10_addSlip_1 rfl (fun H locs hW hS => ?_)
  refine lv_if_eq (tgt := 53) hx0 hb dX10_addSlip_4 (by decide) (fun c4 => ?_) (fun c4 => ?_)
  · rw [if_pos c4] at h
    cases h
    exact w_vret C hW hS dX10_addSlip_53
  · rw [if_neg c4] at h
    refine lv_aload_n hx0 hb dX10_addSlip_7 rfl (lv_at hl 0 rfl) ?_
    refine gtX10_2 (k := o0) C hW ho0 flX10_23 dX10_addSlip_8 ?_
    refine lv_aload_n hx0 hb dX10_addSlip_11 rfl (lv_at hl 0 rfl) ?_
    refine gtX10_7 (k := o0) C hW ho0 flX10_39 dX10_addSlip_12 ?_
    refine lv_iload_n hx0 hb dX10_addSlip_15 rfl (lv_at hl 1 rfl) ?_
    obtain ⟨v16, h16, h⟩ := bnd h
    try dsimp only at h
    refine w_callV (L := (LC E b)) (k := o0 + 5) (As := [.int (σ o0 7), .int x1]) (rest := []) C hW hS (kdlt (chX10_2 ho0) (by decide)) (ccX3 (chX10_2 ho0)) kcX3 (mX3_put (o0 + 5) (σ o0 7) x1 (chX10_2 ho0) σ v16 h16) cwX3_put cvX3_put rfl mlX10_54 ⟨by decide, by decide⟩ rfl hl.1 (Nat.le_of_ble_eq_true rfl) ⟨by decide, by decide⟩ dX10_addSlip_16 rfl (fun H locs hW hS => ?_)
    refine lv_aload_n hx0 hb dX10_addSlip_19 rfl (lv_at hl 0 rfl) ?_
    refine gtX10_3 (k := o0) C hW ho0 flX10_26 dX10_addSlip_20 ?_
    refine lv_aload_n hx0 hb dX10_addSlip_23 rfl (lv_at hl 0 rfl) ?_
    refine gtX10_7 (k := o0) C hW ho0 flX10_39 dX10_addSlip_24 ?_
    refine lv_iload_n hx0 hb dX10_addSlip_27 rfl (lv_at hl 2 rfl) ?_
    obtain ⟨v28, h28, h⟩ := bnd h
    try dsimp only at h
    refine w_callV (L := (LC E b)) (k := o0 + 7) (As := [.int (v16 o0 7), .int x2]) (rest := []) C hW hS (kdlt (chX10_3 ho0) (by decide)) (ccX3 (chX10_3 ho0)) kcX3 (mX3_put (o0 + 7) (v16 o0 7) x2 (chX10_3 ho0) v16 v28 h28) cwX3_put cvX3_put rfl mlX10_54 ⟨by decide, by decide⟩ rfl hl.1 (Nat.le_of_ble_eq_true rfl) ⟨by decide, by decide⟩ dX10_addSlip_28 rfl (fun H locs hW hS => ?_)
    refine lv_aload_n hx0 hb dX10_addSlip_31 rfl (lv_at hl 0 rfl) ?_
    refine gtX10_4 (k := o0) C hW ho0 flX10_29 dX10_addSlip_32 ?_
    refine lv_aload_n hx0 hb dX10_addSlip_35 rfl (lv_at hl 0 rfl) ?_
    refine gtX10_7 (k := o0) C hW ho0 flX10_39 dX10_addSlip_36 ?_
    refine lv_iload_n hx0 hb dX10_addSlip_39 rfl (lv_at hl 3 rfl) ?_
    obtain ⟨v40, h40, h⟩ := bnd h
    try dsimp only at h
    refine w_callV (L := (LC E b)) (k := o0 + 9) (As := [.int (v28 o0 7), .int x3]) (rest := []) C hW hS (kdlt (chX10_4 ho0) (by decide)) (ccX3 (chX10_4 ho0)) kcX3 (mX3_put (o0 + 9) (v28 o0 7) x3 (chX10_4 ho0) v28 v40 h40) cwX3_put cvX3_put rfl mlX10_54 ⟨by decide, by decide⟩ rfl hl.1 (Nat.le_of_ble_eq_true rfl) ⟨by decide, by decide⟩ dX10_addSlip_40 rfl (fun H locs hW hS => ?_)
    refine lv_aload_n hx0 hb dX10_addSlip_43 rfl (lv_at hl 0 rfl) ?_
    refine lv_dup hx0 hb dX10_addSlip_44 rfl ?_
    refine gtX10_7 (k := o0) C hW ho0 flX10_39 dX10_addSlip_45 ?_
    refine lv_iconst (v := (1 : Int32)) hx0 hb dX10_addSlip_48 (by decide) ?_
    refine lv_iadd hx0 hb dX10_addSlip_49 ?_
    refine ptX10_7 (k := o0) C hW hS ho0 flX10_39 dX10_addSlip_50 (fun H locs hW hS => ?_)
    cases h
    exact w_vret C hW hS dX10_addSlip_53
def fX10_loosen (o0 : Nat) (x1 : Int32) (σ : Mem) : Option Mem :=
  (fX3_put (o0 + 5) x1 (-1 : Int32) σ).bind fun v6 => (fX3_put (o0 + 7) x1 (-1 : Int32) v6).bind fun v15 => some v15
set_option maxRecDepth 100000 in
set_option maxHeartbeats 4000000 in
theorem mX10_loosen {l : Launch} {E : Ev} {b : Nat} (o0 : Nat) (x1 : Int32) (ho0 : kd o0 = 10) (σ : Mem) (r : Mem) (h : fX10_loosen o0 x1 σ = some r) : Met l yX10_loosen (tw yX10_loosen cX10_loosen 2 none) { frames := 1, cells := 0, slots := 0, locals := 22 } (va_Pc [.ref (b + o0), .int x1] (Pr l E (LC E b) σ)) (Qz E (LC E b) none r) 0 0 (La (LC E b)) := by
  refine ct_of (by decide) (Nat.le_of_ble_eq_true rfl) ?_
  intro p e s m below meth c C hW hS ls hl
  have hx0 := C.1
  have hb := C.2.1
  have hl : lv_has ls 2 [(0, .ref (b + o0)), (1, .int x1)] := hl
  unfold fX10_loosen at h
  refine lv_aload_n hx0 hb dX10_loosen_0 rfl (lv_at hl 0 rfl) ?_
  refine gtX10_2 (k := o0) C hW ho0 flX10_23 dX10_loosen_1 ?_
  refine lv_iload_n hx0 hb dX10_loosen_4 rfl (lv_at hl 1 rfl) ?_
  refine lv_iconst (v := (-1 : Int32)) hx0 hb dX10_loosen_5 (by decide) ?_
  obtain ⟨v6, h6, h⟩ := bnd h
  try dsimp only at h
  refine w_callV (L := (LC E b)) (k := o0 + 5) (As := [.int x1, .int (-1 : Int32)]) (rest := []) C hW hS (kdlt (chX10_2 ho0) (by decide)) (ccX3 (chX10_2 ho0)) kcX3 (mX3_put (o0 + 5) x1 (-1 : Int32) (chX10_2 ho0) σ v6 h6) cwX3_put cvX3_put rfl mlX10_54 ⟨by decide, by decide⟩ rfl hl.1 (Nat.le_of_ble_eq_true rfl) ⟨by decide, by decide⟩ dX10_loosen_6 rfl (fun H locs hW hS => ?_)
  refine lv_aload_n hx0 hb dX10_loosen_9 rfl (lv_at hl 0 rfl) ?_
  refine gtX10_3 (k := o0) C hW ho0 flX10_26 dX10_loosen_10 ?_
  refine lv_iload_n hx0 hb dX10_loosen_13 rfl (lv_at hl 1 rfl) ?_
  refine lv_iconst (v := (-1 : Int32)) hx0 hb dX10_loosen_14 (by decide) ?_
  obtain ⟨v15, h15, h⟩ := bnd h
  try dsimp only at h
  refine w_callV (L := (LC E b)) (k := o0 + 7) (As := [.int x1, .int (-1 : Int32)]) (rest := []) C hW hS (kdlt (chX10_3 ho0) (by decide)) (ccX3 (chX10_3 ho0)) kcX3 (mX3_put (o0 + 7) x1 (-1 : Int32) (chX10_3 ho0) v6 v15 h15) cwX3_put cvX3_put rfl mlX10_54 ⟨by decide, by decide⟩ rfl hl.1 (Nat.le_of_ble_eq_true rfl) ⟨by decide, by decide⟩ dX10_loosen_15 rfl (fun H locs hW hS => ?_)
  cases h
  exact w_vret C hW hS dX10_loosen_18
def fX10_leafOfSlip (o0 : Nat) (x1 : Int32) (σ : Mem) : Option Int32 :=
  (fX3_at (o0 + 5) x1 σ).bind fun v5 => some v5
set_option maxRecDepth 100000 in
set_option maxHeartbeats 4000000 in
theorem mX10_leafOfSlip {l : Launch} {E : Ev} {b : Nat} (o0 : Nat) (x1 : Int32) (ho0 : kd o0 = 10) (σ : Mem) (r : Int32) (h : fX10_leafOfSlip o0 x1 σ = some r) : Met l yX10_leafOfSlip (tw yX10_leafOfSlip cX10_leafOfSlip 2 (some .int)) { frames := 1, cells := 0, slots := 0, locals := 21 } (va_Pc [.ref (b + o0), .int x1] (Pr l E (LC E b) σ)) (Qz E (LC E b) (some (.int r)) σ) 0 0 (La (LC E b)) := by
  refine ct_of (by decide) (Nat.le_of_ble_eq_true rfl) ?_
  intro p e s m below meth c C hW hS ls hl
  have hx0 := C.1
  have hb := C.2.1
  have hl : lv_has ls 2 [(0, .ref (b + o0)), (1, .int x1)] := hl
  unfold fX10_leafOfSlip at h
  refine lv_aload_n hx0 hb dX10_leafOfSlip_0 rfl (lv_at hl 0 rfl) ?_
  refine gtX10_2 (k := o0) C hW ho0 flX10_23 dX10_leafOfSlip_1 ?_
  refine lv_iload_n hx0 hb dX10_leafOfSlip_4 rfl (lv_at hl 1 rfl) ?_
  obtain ⟨v5, h5, h⟩ := bnd h
  try dsimp only at h
  refine w_callV (L := (LC E b)) (k := o0 + 5) (As := [.int x1]) (rest := []) C hW hS (kdlt (chX10_2 ho0) (by decide)) (ccX3 (chX10_2 ho0)) kcX3 (mX3_at (o0 + 5) x1 (chX10_2 ho0) σ v5 h5) cwX3_at cvX3_at rfl mlX10_58 ⟨by decide, by decide⟩ rfl hl.1 (Nat.le_of_ble_eq_true rfl) ⟨by decide, by decide⟩ dX10_leafOfSlip_5 rfl (fun H locs hW hS => ?_)
  cases h
  exact w_iret C hW hS dX10_leafOfSlip_8
def fX10_sideOfSlip (o0 : Nat) (x1 : Int32) (σ : Mem) : Option Int32 :=
  (fX3_at (o0 + 7) x1 σ).bind fun v5 => some v5
set_option maxRecDepth 100000 in
set_option maxHeartbeats 4000000 in
theorem mX10_sideOfSlip {l : Launch} {E : Ev} {b : Nat} (o0 : Nat) (x1 : Int32) (ho0 : kd o0 = 10) (σ : Mem) (r : Int32) (h : fX10_sideOfSlip o0 x1 σ = some r) : Met l yX10_sideOfSlip (tw yX10_sideOfSlip cX10_sideOfSlip 2 (some .int)) { frames := 1, cells := 0, slots := 0, locals := 21 } (va_Pc [.ref (b + o0), .int x1] (Pr l E (LC E b) σ)) (Qz E (LC E b) (some (.int r)) σ) 0 0 (La (LC E b)) := by
  refine ct_of (by decide) (Nat.le_of_ble_eq_true rfl) ?_
  intro p e s m below meth c C hW hS ls hl
  have hx0 := C.1
  have hb := C.2.1
  have hl : lv_has ls 2 [(0, .ref (b + o0)), (1, .int x1)] := hl
  unfold fX10_sideOfSlip at h
  refine lv_aload_n hx0 hb dX10_sideOfSlip_0 rfl (lv_at hl 0 rfl) ?_
  refine gtX10_3 (k := o0) C hW ho0 flX10_26 dX10_sideOfSlip_1 ?_
  refine lv_iload_n hx0 hb dX10_sideOfSlip_4 rfl (lv_at hl 1 rfl) ?_
  obtain ⟨v5, h5, h⟩ := bnd h
  try dsimp only at h
  refine w_callV (L := (LC E b)) (k := o0 + 7) (As := [.int x1]) (rest := []) C hW hS (kdlt (chX10_3 ho0) (by decide)) (ccX3 (chX10_3 ho0)) kcX3 (mX3_at (o0 + 7) x1 (chX10_3 ho0) σ v5 h5) cwX3_at cvX3_at rfl mlX10_58 ⟨by decide, by decide⟩ rfl hl.1 (Nat.le_of_ble_eq_true rfl) ⟨by decide, by decide⟩ dX10_sideOfSlip_5 rfl (fun H locs hW hS => ?_)
  cases h
  exact w_iret C hW hS dX10_sideOfSlip_8
def fX10_sidesOfSlip (o0 : Nat) (x1 : Int32) (σ : Mem) : Option Int32 :=
  (fX3_at (o0 + 9) x1 σ).bind fun v5 => some v5
set_option maxRecDepth 100000 in
set_option maxHeartbeats 4000000 in
theorem mX10_sidesOfSlip {l : Launch} {E : Ev} {b : Nat} (o0 : Nat) (x1 : Int32) (ho0 : kd o0 = 10) (σ : Mem) (r : Int32) (h : fX10_sidesOfSlip o0 x1 σ = some r) : Met l yX10_sidesOfSlip (tw yX10_sidesOfSlip cX10_sidesOfSlip 2 (some .int)) { frames := 1, cells := 0, slots := 0, locals := 21 } (va_Pc [.ref (b + o0), .int x1] (Pr l E (LC E b) σ)) (Qz E (LC E b) (some (.int r)) σ) 0 0 (La (LC E b)) := by
  refine ct_of (by decide) (Nat.le_of_ble_eq_true rfl) ?_
  intro p e s m below meth c C hW hS ls hl
  have hx0 := C.1
  have hb := C.2.1
  have hl : lv_has ls 2 [(0, .ref (b + o0)), (1, .int x1)] := hl
  unfold fX10_sidesOfSlip at h
  refine lv_aload_n hx0 hb dX10_sidesOfSlip_0 rfl (lv_at hl 0 rfl) ?_
  refine gtX10_4 (k := o0) C hW ho0 flX10_29 dX10_sidesOfSlip_1 ?_
  refine lv_iload_n hx0 hb dX10_sidesOfSlip_4 rfl (lv_at hl 1 rfl) ?_
  obtain ⟨v5, h5, h⟩ := bnd h
  try dsimp only at h
  refine w_callV (L := (LC E b)) (k := o0 + 9) (As := [.int x1]) (rest := []) C hW hS (kdlt (chX10_4 ho0) (by decide)) (ccX3 (chX10_4 ho0)) kcX3 (mX3_at (o0 + 9) x1 (chX10_4 ho0) σ v5 h5) cwX3_at cvX3_at rfl mlX10_58 ⟨by decide, by decide⟩ rfl hl.1 (Nat.le_of_ble_eq_true rfl) ⟨by decide, by decide⟩ dX10_sidesOfSlip_5 rfl (fun H locs hW hS => ?_)
  cases h
  exact w_iret C hW hS dX10_sidesOfSlip_8
def fX10_isSlipOn (o0 : Nat) (x1 : Int32) (x2 : Int32) (x3 : Int32) (σ : Mem) : Option Int32 :=
  if x2 = (-1 : Int32) then (some (0 : Int32)) else ((fX3_at (o0 + 5) x1 σ).bind fun v10 => if v10 = x2 then ((fX3_at (o0 + 7) x1 σ).bind fun v22 => if v22 = x3 then (some (1 : Int32)) else (some (0 : Int32))) else (some (0 : Int32)))
set_option maxRecDepth 100000 in
set_option maxHeartbeats 4000000 in
theorem mX10_isSlipOn {l : Launch} {E : Ev} {b : Nat} (o0 : Nat) (x1 : Int32) (x2 : Int32) (x3 : Int32) (ho0 : kd o0 = 10) (σ : Mem) (r : Int32) (h : fX10_isSlipOn o0 x1 x2 x3 σ = some r) : Met l yX10_isSlipOn (tw yX10_isSlipOn cX10_isSlipOn 4 (some .boolean)) { frames := 1, cells := 0, slots := 0, locals := 21 } (va_Pc [.ref (b + o0), .int x1, .int x2, .int x3] (Pr l E (LC E b) σ)) (Qz E (LC E b) (some (.int r)) σ) 0 0 (La (LC E b)) := by
  refine ct_of (by decide) (Nat.le_of_ble_eq_true rfl) ?_
  intro p e s m below meth c C hW hS ls hl
  have hx0 := C.1
  have hb := C.2.1
  have hl : lv_has ls 4 [(0, .ref (b + o0)), (1, .int x1), (2, .int x2), (3, .int x3)] := hl
  unfold fX10_isSlipOn at h
  refine lv_iload_n hx0 hb dX10_isSlipOn_0 rfl (lv_at hl 2 rfl) ?_
  refine lv_iconst (v := (-1 : Int32)) hx0 hb dX10_isSlipOn_1 (by decide) ?_
  refine lv_icmp_eq (tgt := 33) hx0 hb dX10_isSlipOn_2 (by decide) (fun c2 => ?_) (fun c2 => ?_)
  · rw [if_pos c2] at h
    refine lv_iconst (v := (0 : Int32)) hx0 hb dX10_isSlipOn_33 (by decide) ?_
    cases h
    exact w_zret C hW hS (Or.inl rfl) dX10_isSlipOn_34
  · rw [if_neg c2] at h
    refine lv_aload_n hx0 hb dX10_isSlipOn_5 rfl (lv_at hl 0 rfl) ?_
    refine gtX10_2 (k := o0) C hW ho0 flX10_23 dX10_isSlipOn_6 ?_
    refine lv_iload_n hx0 hb dX10_isSlipOn_9 rfl (lv_at hl 1 rfl) ?_
    obtain ⟨v10, h10, h⟩ := bnd h
    try dsimp only at h
    refine w_callV (L := (LC E b)) (k := o0 + 5) (As := [.int x1]) (rest := []) C hW hS (kdlt (chX10_2 ho0) (by decide)) (ccX3 (chX10_2 ho0)) kcX3 (mX3_at (o0 + 5) x1 (chX10_2 ho0) σ v10 h10) cwX3_at cvX3_at rfl mlX10_58 ⟨by decide, by decide⟩ rfl hl.1 (Nat.le_of_ble_eq_true rfl) ⟨by decide, by decide⟩ dX10_isSlipOn_10 rfl (fun H locs hW hS => ?_)
    refine lv_iload_n hx0 hb dX10_isSlipOn_13 rfl (lv_at hl 2 rfl) ?_
    refine lv_icmp_ne (tgt := 33) hx0 hb dX10_isSlipOn_14 (by decide) (fun c14 => ?_) (fun c14 => ?_)
    · rw [if_neg c14] at h
      refine lv_iconst (v := (0 : Int32)) hx0 hb dX10_isSlipOn_33 (by decide) ?_
      cases h
      exact w_zret C hW hS (Or.inl rfl) dX10_isSlipOn_34
    · rw [if_pos c14] at h
      refine lv_aload_n hx0 hb dX10_isSlipOn_17 rfl (lv_at hl 0 rfl) ?_
      refine gtX10_3 (k := o0) C hW ho0 flX10_26 dX10_isSlipOn_18 ?_
      refine lv_iload_n hx0 hb dX10_isSlipOn_21 rfl (lv_at hl 1 rfl) ?_
      obtain ⟨v22, h22, h⟩ := bnd h
      try dsimp only at h
      refine w_callV (L := (LC E b)) (k := o0 + 7) (As := [.int x1]) (rest := []) C hW hS (kdlt (chX10_3 ho0) (by decide)) (ccX3 (chX10_3 ho0)) kcX3 (mX3_at (o0 + 7) x1 (chX10_3 ho0) σ v22 h22) cwX3_at cvX3_at rfl mlX10_58 ⟨by decide, by decide⟩ rfl hl.1 (Nat.le_of_ble_eq_true rfl) ⟨by decide, by decide⟩ dX10_isSlipOn_22 rfl (fun H locs hW hS => ?_)
      refine lv_iload_n hx0 hb dX10_isSlipOn_25 rfl (lv_at hl 3 rfl) ?_
      refine lv_icmp_ne (tgt := 33) hx0 hb dX10_isSlipOn_26 (by decide) (fun c26 => ?_) (fun c26 => ?_)
      · rw [if_neg c26] at h
        refine lv_iconst (v := (0 : Int32)) hx0 hb dX10_isSlipOn_33 (by decide) ?_
        cases h
        exact w_zret C hW hS (Or.inl rfl) dX10_isSlipOn_34
      · rw [if_pos c26] at h
        refine lv_iconst (v := (1 : Int32)) hx0 hb dX10_isSlipOn_29 (by decide) ?_
        refine lv_goto (tgt := 34) hx0 hb dX10_isSlipOn_30 (by decide) ?_
        cases h
        exact w_zret C hW hS (Or.inr rfl) dX10_isSlipOn_34
def fX10_slipsOnBefore_l6 (o0 : Nat) (x1 : Int32) (x2 : Int32) (x3 : Int32) : Nat → Int32 → Int32 → Mem → Option (Int32 × Int32)
  | 0, _, _, _ => none
  | n + 1, x4, x5, σ => if x3 ≤ x5 then (some (x4, x5)) else ((fX10_isSlipOn o0 x5 x1 x2 σ).bind fun v17 => if v17 = 0 then (fX10_slipsOnBefore_l6 o0 x1 x2 x3 n x4 (x5 + (1 : Int32)) σ) else (fX10_slipsOnBefore_l6 o0 x1 x2 x3 n (x4 + (1 : Int32)) (x5 + (1 : Int32)) σ))
set_option maxRecDepth 100000 in
set_option maxHeartbeats 4000000 in
theorem bX10_slipsOnBefore_l6 {p : Program} {l : Launch} {e : Env} {s : State} {m : MethodId} {args : Array Value} {below : List Frame} {meth : Method} {c : Code} {E : Ev} {b : Nat} (C : Cx p l s m args meth c E cX10_slipsOnBefore 6 RX10 (some .int)) (o0 : Nat) (x1 : Int32) (x2 : Int32) (x3 : Int32) (ho0 : kd o0 = 10) (σ : Mem) {Qf : State → Prop} {q : Int32 × Int32} (hx : ∀ H locs ls, Wd E (LC E b) σ H → va_S (La (LC E b)) s.heap H locs → lv_has ls 6 [(0, .ref (b + o0)), (1, .int x1), (2, .int x2), (3, .int x3), (4, .int q.1), (5, .int q.2)] → W p l e { frames := 2, cells := 0, slots := 0, locals := 44 } s m args below meth c H locs 0 0 Qf (F0 m 32 ls [])) : ∀ (n : Nat) (x4 : Int32) (x5 : Int32), fX10_slipsOnBefore_l6 o0 x1 x2 x3 n x4 x5 σ = some q → ∀ (H : Heap) (locs : List Loc) (ls : Array Slot), Wd E (LC E b) σ H → va_S (La (LC E b)) s.heap H locs → lv_has ls 6 [(0, .ref (b + o0)), (1, .int x1), (2, .int x2), (3, .int x3), (4, .int x4), (5, .int x5)] → W p l e { frames := 2, cells := 0, slots := 0, locals := 44 } s m args below meth c H locs 0 0 Qf (F0 m 6 ls []) := by
  have hx0 := C.1
  have hb := C.2.1
  intro n
  induction n with
  | zero => intro x4 x5 h; simp [fX10_slipsOnBefore_l6] at h
  | succ n ih =>
    intro x4 x5 h H locs ls hW hS hl
    unfold fX10_slipsOnBefore_l6 at h
    refine lv_iload hx0 hb dX10_slipsOnBefore_6 (lv_at hl 5 rfl) ?_
    refine lv_iload_n hx0 hb dX10_slipsOnBefore_8 rfl (lv_at hl 3 rfl) ?_
    refine lv_icmp_ge (tgt := 32) hx0 hb dX10_slipsOnBefore_9 (by decide) (fun c9 => ?_) (fun c9 => ?_)
    · rw [if_pos c9] at h
      cases h
      exact hx _ _ _ hW hS (lv_sub hl [0, 1, 2, 3, 4, 5] rfl)
    · rw [if_neg c9] at h
      refine lv_aload_n hx0 hb dX10_slipsOnBefore_12 rfl (lv_at hl 0 rfl) ?_
      refine lv_iload hx0 hb dX10_slipsOnBefore_13 (lv_at hl 5 rfl) ?_
      refine lv_iload_n hx0 hb dX10_slipsOnBefore_15 rfl (lv_at hl 1 rfl) ?_
      refine lv_iload_n hx0 hb dX10_slipsOnBefore_16 rfl (lv_at hl 2 rfl) ?_
      obtain ⟨v17, h17, h⟩ := bnd h
      try dsimp only at h
      refine w_callV (L := (LC E b)) (k := o0) (As := [.int x5, .int x1, .int x2]) (rest := []) C hW hS (kdlt ho0 (by decide)) (ccX10 ho0) kcX10 (mX10_isSlipOn o0 x5 x1 x2 ho0 σ v17 h17) cwX10_isSlipOn cvX10_isSlipOn rfl mlX10_96 ⟨by decide, by decide⟩ rfl hl.1 (Nat.le_of_ble_eq_true rfl) ⟨by decide, by decide⟩ dX10_slipsOnBefore_17 rfl (fun H locs hW hS => ?_)
      refine lv_if_eq (tgt := 26) hx0 hb dX10_slipsOnBefore_20 (by decide) (fun c20 => ?_) (fun c20 => ?_)
      · rw [if_pos c20] at h
        refine lv_iinc (v := x5 + (1 : Int32)) (lv' := [(5, .int (x5 + (1 : Int32))), (0, .ref (b + o0)), (1, .int x1), (2, .int x2), (3, .int x3), (4, .int x4)]) hx0 hb dX10_slipsOnBefore_26 hl (k := 5) rfl rfl (by decide) rfl (fun ls hl => ?_)
        refine lv_goto (tgt := 6) hx0 hb dX10_slipsOnBefore_29 (by decide) ?_
        exact ih x4 (x5 + (1 : Int32)) h _ _ _ hW hS (lv_sub hl [1, 2, 3, 4, 5, 0] rfl)
      · rw [if_neg c20] at h
        refine lv_iinc (v := x4 + (1 : Int32)) (lv' := [(4, .int (x4 + (1 : Int32))), (0, .ref (b + o0)), (1, .int x1), (2, .int x2), (3, .int x3), (5, .int x5)]) hx0 hb dX10_slipsOnBefore_23 hl (k := 4) rfl rfl (by decide) rfl (fun ls hl => ?_)
        refine lv_iinc (v := x5 + (1 : Int32)) (lv' := [(5, .int (x5 + (1 : Int32))), (4, .int (x4 + (1 : Int32))), (0, .ref (b + o0)), (1, .int x1), (2, .int x2), (3, .int x3)]) hx0 hb dX10_slipsOnBefore_26 hl (k := 5) rfl rfl (by decide) rfl (fun ls hl => ?_)
        refine lv_goto (tgt := 6) hx0 hb dX10_slipsOnBefore_29 (by decide) ?_
        exact ih (x4 + (1 : Int32)) (x5 + (1 : Int32)) h _ _ _ hW hS (lv_sub hl [2, 3, 4, 5, 1, 0] rfl)
def fX10_slipsOnBefore (o0 : Nat) (x1 : Int32) (x2 : Int32) (x3 : Int32) (σ : Mem) : Option Int32 :=
  (fX10_slipsOnBefore_l6 o0 x1 x2 x3 FU (0 : Int32) (0 : Int32) σ).bind fun q6 => some q6.1
set_option maxRecDepth 100000 in
set_option maxHeartbeats 4000000 in
theorem mX10_slipsOnBefore {l : Launch} {E : Ev} {b : Nat} (o0 : Nat) (x1 : Int32) (x2 : Int32) (x3 : Int32) (ho0 : kd o0 = 10) (σ : Mem) (r : Int32) (h : fX10_slipsOnBefore o0 x1 x2 x3 σ = some r) : Met l yX10_slipsOnBefore (tw yX10_slipsOnBefore cX10_slipsOnBefore 6 (some .int)) { frames := 2, cells := 0, slots := 0, locals := 44 } (va_Pc [.ref (b + o0), .int x1, .int x2, .int x3] (Pr l E (LC E b) σ)) (Qz E (LC E b) (some (.int r)) σ) 0 0 (La (LC E b)) := by
  refine ct_of (by decide) (Nat.le_of_ble_eq_true rfl) ?_
  intro p e s m below meth c C hW hS ls hl
  have hx0 := C.1
  have hb := C.2.1
  have hl : lv_has ls 6 [(0, .ref (b + o0)), (1, .int x1), (2, .int x2), (3, .int x3)] := hl
  unfold fX10_slipsOnBefore at h
  refine lv_iconst (v := (0 : Int32)) hx0 hb dX10_slipsOnBefore_0 (by decide) ?_
  refine lv_istore (lv' := [(4, .int (0 : Int32)), (0, .ref (b + o0)), (1, .int x1), (2, .int x2), (3, .int x3)]) hx0 hb dX10_slipsOnBefore_1 hl (by decide) rfl (fun ls hl => ?_)
  refine lv_iconst (v := (0 : Int32)) hx0 hb dX10_slipsOnBefore_3 (by decide) ?_
  refine lv_istore (lv' := [(5, .int (0 : Int32)), (4, .int (0 : Int32)), (0, .ref (b + o0)), (1, .int x1), (2, .int x2), (3, .int x3)]) hx0 hb dX10_slipsOnBefore_4 hl (by decide) rfl (fun ls hl => ?_)
  obtain ⟨q6, h6, h⟩ := bnd h
  try dsimp only at h
  refine bX10_slipsOnBefore_l6 C o0 x1 x2 x3 ho0 σ (q := q6) ?_ FU (0 : Int32) (0 : Int32) h6 _ _ _ hW hS (lv_sub hl [2, 3, 4, 5, 1, 0] rfl)
  intro H locs ls hW hS hl
  refine lv_iload hx0 hb dX10_slipsOnBefore_32 (lv_at hl 4 rfl) ?_
  cases h
  exact w_iret C hW hS dX10_slipsOnBefore_34
def fX10_slipsOn (o0 : Nat) (x1 : Int32) (x2 : Int32) (σ : Mem) : Option Int32 :=
  (fX10_slipsOnBefore o0 x1 x2 (σ o0 7) σ).bind fun v7 => some v7
set_option maxRecDepth 100000 in
set_option maxHeartbeats 4000000 in
theorem mX10_slipsOn {l : Launch} {E : Ev} {b : Nat} (o0 : Nat) (x1 : Int32) (x2 : Int32) (ho0 : kd o0 = 10) (σ : Mem) (r : Int32) (h : fX10_slipsOn o0 x1 x2 σ = some r) : Met l yX10_slipsOn (tw yX10_slipsOn cX10_slipsOn 3 (some .int)) { frames := 3, cells := 0, slots := 0, locals := 69 } (va_Pc [.ref (b + o0), .int x1, .int x2] (Pr l E (LC E b) σ)) (Qz E (LC E b) (some (.int r)) σ) 0 0 (La (LC E b)) := by
  refine ct_of (by decide) (Nat.le_of_ble_eq_true rfl) ?_
  intro p e s m below meth c C hW hS ls hl
  have hx0 := C.1
  have hb := C.2.1
  have hl : lv_has ls 3 [(0, .ref (b + o0)), (1, .int x1), (2, .int x2)] := hl
  unfold fX10_slipsOn at h
  refine lv_aload_n hx0 hb dX10_slipsOn_0 rfl (lv_at hl 0 rfl) ?_
  refine lv_iload_n hx0 hb dX10_slipsOn_1 rfl (lv_at hl 1 rfl) ?_
  refine lv_iload_n hx0 hb dX10_slipsOn_2 rfl (lv_at hl 2 rfl) ?_
  refine lv_aload_n hx0 hb dX10_slipsOn_3 rfl (lv_at hl 0 rfl) ?_
  refine gtX10_7 (k := o0) C hW ho0 flX10_39 dX10_slipsOn_4 ?_
  obtain ⟨v7, h7, h⟩ := bnd h
  try dsimp only at h
  refine w_callV (L := (LC E b)) (k := o0) (As := [.int x1, .int x2, .int (σ o0 7)]) (rest := []) C hW hS (kdlt ho0 (by decide)) (ccX10 ho0) kcX10 (mX10_slipsOnBefore o0 x1 x2 (σ o0 7) ho0 σ v7 h7) cwX10_slipsOnBefore cvX10_slipsOnBefore rfl mlX10_100 ⟨by decide, by decide⟩ rfl hl.1 (Nat.le_of_ble_eq_true rfl) ⟨by decide, by decide⟩ dX10_slipsOn_7 rfl (fun H locs hW hS => ?_)
  cases h
  exact w_iret C hW hS dX10_slipsOn_10
def fX10_rankOfSlip (o0 : Nat) (x1 : Int32) (σ : Mem) : Option Int32 :=
  (fX3_at (o0 + 5) x1 σ).bind fun v6 => (fX3_at (o0 + 7) x1 σ).bind fun v14 => (fX10_slipsOnBefore o0 v6 v14 x1 σ).bind fun v18 => some v18
set_option maxRecDepth 100000 in
set_option maxHeartbeats 4000000 in
theorem mX10_rankOfSlip {l : Launch} {E : Ev} {b : Nat} (o0 : Nat) (x1 : Int32) (ho0 : kd o0 = 10) (σ : Mem) (r : Int32) (h : fX10_rankOfSlip o0 x1 σ = some r) : Met l yX10_rankOfSlip (tw yX10_rankOfSlip cX10_rankOfSlip 2 (some .int)) { frames := 3, cells := 0, slots := 0, locals := 69 } (va_Pc [.ref (b + o0), .int x1] (Pr l E (LC E b) σ)) (Qz E (LC E b) (some (.int r)) σ) 0 0 (La (LC E b)) := by
  refine ct_of (by decide) (Nat.le_of_ble_eq_true rfl) ?_
  intro p e s m below meth c C hW hS ls hl
  have hx0 := C.1
  have hb := C.2.1
  have hl : lv_has ls 2 [(0, .ref (b + o0)), (1, .int x1)] := hl
  unfold fX10_rankOfSlip at h
  refine lv_aload_n hx0 hb dX10_rankOfSlip_0 rfl (lv_at hl 0 rfl) ?_
  refine lv_aload_n hx0 hb dX10_rankOfSlip_1 rfl (lv_at hl 0 rfl) ?_
  refine gtX10_2 (k := o0) C hW ho0 flX10_23 dX10_rankOfSlip_2 ?_
  refine lv_iload_n hx0 hb dX10_rankOfSlip_5 rfl (lv_at hl 1 rfl) ?_
  obtain ⟨v6, h6, h⟩ := bnd h
  try dsimp only at h
  refine w_callV (L := (LC E b)) (k := o0 + 5) (As := [.int x1]) (rest := [.ref (b + o0)]) C hW hS (kdlt (chX10_2 ho0) (by decide)) (ccX3 (chX10_2 ho0)) kcX3 (mX3_at (o0 + 5) x1 (chX10_2 ho0) σ v6 h6) cwX3_at cvX3_at rfl mlX10_58 ⟨by decide, by decide⟩ rfl hl.1 (Nat.le_of_ble_eq_true rfl) ⟨by decide, by decide⟩ dX10_rankOfSlip_6 rfl (fun H locs hW hS => ?_)
  refine lv_aload_n hx0 hb dX10_rankOfSlip_9 rfl (lv_at hl 0 rfl) ?_
  refine gtX10_3 (k := o0) C hW ho0 flX10_26 dX10_rankOfSlip_10 ?_
  refine lv_iload_n hx0 hb dX10_rankOfSlip_13 rfl (lv_at hl 1 rfl) ?_
  obtain ⟨v14, h14, h⟩ := bnd h
  try dsimp only at h
  refine w_callV (L := (LC E b)) (k := o0 + 7) (As := [.int x1]) (rest := [.int v6, .ref (b + o0)]) C hW hS (kdlt (chX10_3 ho0) (by decide)) (ccX3 (chX10_3 ho0)) kcX3 (mX3_at (o0 + 7) x1 (chX10_3 ho0) σ v14 h14) cwX3_at cvX3_at rfl mlX10_58 ⟨by decide, by decide⟩ rfl hl.1 (Nat.le_of_ble_eq_true rfl) ⟨by decide, by decide⟩ dX10_rankOfSlip_14 rfl (fun H locs hW hS => ?_)
  refine lv_iload_n hx0 hb dX10_rankOfSlip_17 rfl (lv_at hl 1 rfl) ?_
  obtain ⟨v18, h18, h⟩ := bnd h
  try dsimp only at h
  refine w_callV (L := (LC E b)) (k := o0) (As := [.int v6, .int v14, .int x1]) (rest := []) C hW hS (kdlt ho0 (by decide)) (ccX10 ho0) kcX10 (mX10_slipsOnBefore o0 v6 v14 x1 ho0 σ v18 h18) cwX10_slipsOnBefore cvX10_slipsOnBefore rfl mlX10_100 ⟨by decide, by decide⟩ rfl hl.1 (Nat.le_of_ble_eq_true rfl) ⟨by decide, by decide⟩ dX10_rankOfSlip_18 rfl (fun H locs hW hS => ?_)
  cases h
  exact w_iret C hW hS dX10_rankOfSlip_21
def fX10_hasSlips_l2 (o0 : Nat) (x1 : Int32) (x2 : Int32) : Nat → Int32 → Mem → Option (Int32 ⊕ (Int32))
  | 0, _, _ => none
  | n + 1, x3, σ => if (σ o0 7) ≤ x3 then (some (.inr x3)) else ((fX3_at (o0 + 5) x3 σ).bind fun v15 => if v15 = (-1 : Int32) then (fX10_hasSlips_l2 o0 x1 x2 n (x3 + (1 : Int32)) σ) else (if v15 < x1 then (fX10_hasSlips_l2 o0 x1 x2 n (x3 + (1 : Int32)) σ) else (if x2 < v15 then (fX10_hasSlips_l2 o0 x1 x2 n (x3 + (1 : Int32)) σ) else (some (.inl (1 : Int32))))))
set_option maxRecDepth 100000 in
set_option maxHeartbeats 4000000 in
theorem bX10_hasSlips_l2 {p : Program} {l : Launch} {e : Env} {s : State} {m : MethodId} {args : Array Value} {below : List Frame} {meth : Method} {c : Code} {E : Ev} {b : Nat} (C : Cx p l s m args meth c E cX10_hasSlips 5 RX10 (some .boolean)) (o0 : Nat) (x1 : Int32) (x2 : Int32) (ho0 : kd o0 = 10) (σ : Mem) (r0 : Int32) {q0 : Int32 ⊕ (Int32)} (hr : ∀ r, q0 = .inl r → r = r0) (hx : ∀ q, q0 = .inr q → ∀ H locs ls, Wd E (LC E b) σ H → va_S (La (LC E b)) s.heap H locs → lv_has ls 5 [(0, .ref (b + o0)), (1, .int x1), (2, .int x2), (3, .int q)] → W p l e { frames := 1, cells := 0, slots := 0, locals := 21 } s m args below meth c H locs 0 0 (MQ below (Qz E (LC E b) (some (.int r0)) σ) args s 0 0 (La (LC E b))) (F0 m 46 ls [])) : ∀ (n : Nat) (x3 : Int32), fX10_hasSlips_l2 o0 x1 x2 n x3 σ = some q0 → ∀ (H : Heap) (locs : List Loc) (ls : Array Slot), Wd E (LC E b) σ H → va_S (La (LC E b)) s.heap H locs → lv_has ls 5 [(0, .ref (b + o0)), (1, .int x1), (2, .int x2), (3, .int x3)] → W p l e { frames := 1, cells := 0, slots := 0, locals := 21 } s m args below meth c H locs 0 0 (MQ below (Qz E (LC E b) (some (.int r0)) σ) args s 0 0 (La (LC E b))) (F0 m 2 ls []) := by
  have hx0 := C.1
  have hb := C.2.1
  intro n
  induction n with
  | zero => intro x3 h; simp [fX10_hasSlips_l2] at h
  | succ n ih =>
    intro x3 h H locs ls hW hS hl
    unfold fX10_hasSlips_l2 at h
    refine lv_iload_n hx0 hb dX10_hasSlips_2 rfl (lv_at hl 3 rfl) ?_
    refine lv_aload_n hx0 hb dX10_hasSlips_3 rfl (lv_at hl 0 rfl) ?_
    refine gtX10_7 (k := o0) C hW ho0 flX10_39 dX10_hasSlips_4 ?_
    refine lv_icmp_ge (tgt := 46) hx0 hb dX10_hasSlips_7 (by decide) (fun c7 => ?_) (fun c7 => ?_)
    · rw [if_pos c7] at h
      cases h
      exact hx _ rfl _ _ _ hW hS (lv_sub hl [0, 1, 2, 3] rfl)
    · rw [if_neg c7] at h
      refine lv_aload_n hx0 hb dX10_hasSlips_10 rfl (lv_at hl 0 rfl) ?_
      refine gtX10_2 (k := o0) C hW ho0 flX10_23 dX10_hasSlips_11 ?_
      refine lv_iload_n hx0 hb dX10_hasSlips_14 rfl (lv_at hl 3 rfl) ?_
      obtain ⟨v15, h15, h⟩ := bnd h
      try dsimp only at h
      refine w_callV (L := (LC E b)) (k := o0 + 5) (As := [.int x3]) (rest := []) C hW hS (kdlt (chX10_2 ho0) (by decide)) (ccX3 (chX10_2 ho0)) kcX3 (mX3_at (o0 + 5) x3 (chX10_2 ho0) σ v15 h15) cwX3_at cvX3_at rfl mlX10_58 ⟨by decide, by decide⟩ rfl hl.1 (Nat.le_of_ble_eq_true rfl) ⟨by decide, by decide⟩ dX10_hasSlips_15 rfl (fun H locs hW hS => ?_)
      refine lv_istore (lv' := [(4, .int v15), (0, .ref (b + o0)), (1, .int x1), (2, .int x2), (3, .int x3)]) hx0 hb dX10_hasSlips_18 hl (by decide) rfl (fun ls hl => ?_)
      refine lv_iload hx0 hb dX10_hasSlips_20 (lv_at hl 0 rfl) ?_
      refine lv_iconst (v := (-1 : Int32)) hx0 hb dX10_hasSlips_22 (by decide) ?_
      refine lv_icmp_eq (tgt := 40) hx0 hb dX10_hasSlips_23 (by decide) (fun c23 => ?_) (fun c23 => ?_)
      · rw [if_pos c23] at h
        refine lv_iinc (v := x3 + (1 : Int32)) (lv' := [(3, .int (x3 + (1 : Int32))), (4, .int v15), (0, .ref (b + o0)), (1, .int x1), (2, .int x2)]) hx0 hb dX10_hasSlips_40 hl (k := 4) rfl rfl (by decide) rfl (fun ls hl => ?_)
        refine lv_goto (tgt := 2) hx0 hb dX10_hasSlips_43 (by decide) ?_
        exact ih (x3 + (1 : Int32)) h _ _ _ hW hS (lv_sub hl [2, 3, 4, 0] rfl)
      · rw [if_neg c23] at h
        refine lv_iload hx0 hb dX10_hasSlips_26 (lv_at hl 0 rfl) ?_
        refine lv_iload_n hx0 hb dX10_hasSlips_28 rfl (lv_at hl 2 rfl) ?_
        refine lv_icmp_lt (tgt := 40) hx0 hb dX10_hasSlips_29 (by decide) (fun c29 => ?_) (fun c29 => ?_)
        · rw [if_pos c29] at h
          refine lv_iinc (v := x3 + (1 : Int32)) (lv' := [(3, .int (x3 + (1 : Int32))), (4, .int v15), (0, .ref (b + o0)), (1, .int x1), (2, .int x2)]) hx0 hb dX10_hasSlips_40 hl (k := 4) rfl rfl (by decide) rfl (fun ls hl => ?_)
          refine lv_goto (tgt := 2) hx0 hb dX10_hasSlips_43 (by decide) ?_
          exact ih (x3 + (1 : Int32)) h _ _ _ hW hS (lv_sub hl [2, 3, 4, 0] rfl)
        · rw [if_neg c29] at h
          refine lv_iload hx0 hb dX10_hasSlips_32 (lv_at hl 0 rfl) ?_
          refine lv_iload_n hx0 hb dX10_hasSlips_34 rfl (lv_at hl 3 rfl) ?_
          refine lv_icmp_gt (tgt := 40) hx0 hb dX10_hasSlips_35 (by decide) (fun c35 => ?_) (fun c35 => ?_)
          · rw [if_pos c35] at h
            refine lv_iinc (v := x3 + (1 : Int32)) (lv' := [(3, .int (x3 + (1 : Int32))), (4, .int v15), (0, .ref (b + o0)), (1, .int x1), (2, .int x2)]) hx0 hb dX10_hasSlips_40 hl (k := 4) rfl rfl (by decide) rfl (fun ls hl => ?_)
            refine lv_goto (tgt := 2) hx0 hb dX10_hasSlips_43 (by decide) ?_
            exact ih (x3 + (1 : Int32)) h _ _ _ hW hS (lv_sub hl [2, 3, 4, 0] rfl)
          · rw [if_neg c35] at h
            refine lv_iconst (v := (1 : Int32)) hx0 hb dX10_hasSlips_38 (by decide) ?_
            cases h
            cases hr _ rfl
            exact w_zret C hW hS (Or.inr rfl) dX10_hasSlips_39
def fX10_hasSlips (o0 : Nat) (x1 : Int32) (x2 : Int32) (σ : Mem) : Option Int32 :=
  (fX10_hasSlips_l2 o0 x1 x2 FU (0 : Int32) σ).bind fun q2 => match q2 with | .inl r => some r | .inr q2 => some (0 : Int32)
set_option maxRecDepth 100000 in
set_option maxHeartbeats 4000000 in
theorem mX10_hasSlips {l : Launch} {E : Ev} {b : Nat} (o0 : Nat) (x1 : Int32) (x2 : Int32) (ho0 : kd o0 = 10) (σ : Mem) (r : Int32) (h : fX10_hasSlips o0 x1 x2 σ = some r) : Met l yX10_hasSlips (tw yX10_hasSlips cX10_hasSlips 5 (some .boolean)) { frames := 1, cells := 0, slots := 0, locals := 21 } (va_Pc [.ref (b + o0), .int x1, .int x2] (Pr l E (LC E b) σ)) (Qz E (LC E b) (some (.int r)) σ) 0 0 (La (LC E b)) := by
  refine ct_of (by decide) (Nat.le_of_ble_eq_true rfl) ?_
  intro p e s m below meth c C hW hS ls hl
  have hx0 := C.1
  have hb := C.2.1
  have hl : lv_has ls 5 [(0, .ref (b + o0)), (1, .int x1), (2, .int x2)] := hl
  unfold fX10_hasSlips at h
  refine lv_iconst (v := (0 : Int32)) hx0 hb dX10_hasSlips_0 (by decide) ?_
  refine lv_istore_n (lv' := [(3, .int (0 : Int32)), (0, .ref (b + o0)), (1, .int x1), (2, .int x2)]) hx0 hb dX10_hasSlips_1 rfl hl (by decide) rfl (fun ls hl => ?_)
  obtain ⟨q2, h2, h⟩ := bnd h
  refine bX10_hasSlips_l2 C o0 x1 x2 ho0 σ r (q0 := q2) ?_ ?_ FU (0 : Int32) h2 _ _ _ hW hS (lv_sub hl [1, 2, 3, 0] rfl)
  · intro r1 hq; subst hq; (try dsimp only at h); exact Option.some.inj h
  · intro q2 hq H locs ls hW hS hl
    subst hq; try dsimp only at h
    refine lv_iconst (v := (0 : Int32)) hx0 hb dX10_hasSlips_46 (by decide) ?_
    cases h
    exact w_zret C hW hS (Or.inl rfl) dX10_hasSlips_47
def fX10_attachedCount_l4 (o0 : Nat) : Nat → Int32 → Int32 → Mem → Option (Int32 × Int32)
  | 0, _, _, _ => none
  | n + 1, x1, x2, σ => if (σ o0 7) ≤ x2 then (some (x1, x2)) else ((fX3_at (o0 + 5) x2 σ).bind fun v17 => if v17 = (-1 : Int32) then (fX10_attachedCount_l4 o0 n x1 (x2 + (1 : Int32)) σ) else (fX10_attachedCount_l4 o0 n (x1 + (1 : Int32)) (x2 + (1 : Int32)) σ))
set_option maxRecDepth 100000 in
set_option maxHeartbeats 4000000 in
theorem bX10_attachedCount_l4 {p : Program} {l : Launch} {e : Env} {s : State} {m : MethodId} {args : Array Value} {below : List Frame} {meth : Method} {c : Code} {E : Ev} {b : Nat} (C : Cx p l s m args meth c E cX10_attachedCount 3 RX10 (some .int)) (o0 : Nat) (ho0 : kd o0 = 10) (σ : Mem) {Qf : State → Prop} {q : Int32 × Int32} (hx : ∀ H locs ls, Wd E (LC E b) σ H → va_S (La (LC E b)) s.heap H locs → lv_has ls 3 [(0, .ref (b + o0)), (1, .int q.1), (2, .int q.2)] → W p l e { frames := 1, cells := 0, slots := 0, locals := 21 } s m args below meth c H locs 0 0 Qf (F0 m 33 ls [])) : ∀ (n : Nat) (x1 : Int32) (x2 : Int32), fX10_attachedCount_l4 o0 n x1 x2 σ = some q → ∀ (H : Heap) (locs : List Loc) (ls : Array Slot), Wd E (LC E b) σ H → va_S (La (LC E b)) s.heap H locs → lv_has ls 3 [(0, .ref (b + o0)), (1, .int x1), (2, .int x2)] → W p l e { frames := 1, cells := 0, slots := 0, locals := 21 } s m args below meth c H locs 0 0 Qf (F0 m 4 ls []) := by
  have hx0 := C.1
  have hb := C.2.1
  intro n
  induction n with
  | zero => intro x1 x2 h; simp [fX10_attachedCount_l4] at h
  | succ n ih =>
    intro x1 x2 h H locs ls hW hS hl
    unfold fX10_attachedCount_l4 at h
    refine lv_iload_n hx0 hb dX10_attachedCount_4 rfl (lv_at hl 2 rfl) ?_
    refine lv_aload_n hx0 hb dX10_attachedCount_5 rfl (lv_at hl 0 rfl) ?_
    refine gtX10_7 (k := o0) C hW ho0 flX10_39 dX10_attachedCount_6 ?_
    refine lv_icmp_ge (tgt := 33) hx0 hb dX10_attachedCount_9 (by decide) (fun c9 => ?_) (fun c9 => ?_)
    · rw [if_pos c9] at h
      cases h
      exact hx _ _ _ hW hS (lv_sub hl [0, 1, 2] rfl)
    · rw [if_neg c9] at h
      refine lv_aload_n hx0 hb dX10_attachedCount_12 rfl (lv_at hl 0 rfl) ?_
      refine gtX10_2 (k := o0) C hW ho0 flX10_23 dX10_attachedCount_13 ?_
      refine lv_iload_n hx0 hb dX10_attachedCount_16 rfl (lv_at hl 2 rfl) ?_
      obtain ⟨v17, h17, h⟩ := bnd h
      try dsimp only at h
      refine w_callV (L := (LC E b)) (k := o0 + 5) (As := [.int x2]) (rest := []) C hW hS (kdlt (chX10_2 ho0) (by decide)) (ccX3 (chX10_2 ho0)) kcX3 (mX3_at (o0 + 5) x2 (chX10_2 ho0) σ v17 h17) cwX3_at cvX3_at rfl mlX10_58 ⟨by decide, by decide⟩ rfl hl.1 (Nat.le_of_ble_eq_true rfl) ⟨by decide, by decide⟩ dX10_attachedCount_17 rfl (fun H locs hW hS => ?_)
      refine lv_iconst (v := (-1 : Int32)) hx0 hb dX10_attachedCount_20 (by decide) ?_
      refine lv_icmp_eq (tgt := 27) hx0 hb dX10_attachedCount_21 (by decide) (fun c21 => ?_) (fun c21 => ?_)
      · rw [if_pos c21] at h
        refine lv_iinc (v := x2 + (1 : Int32)) (lv' := [(2, .int (x2 + (1 : Int32))), (0, .ref (b + o0)), (1, .int x1)]) hx0 hb dX10_attachedCount_27 hl (k := 2) rfl rfl (by decide) rfl (fun ls hl => ?_)
        refine lv_goto (tgt := 4) hx0 hb dX10_attachedCount_30 (by decide) ?_
        exact ih x1 (x2 + (1 : Int32)) h _ _ _ hW hS (lv_sub hl [1, 2, 0] rfl)
      · rw [if_neg c21] at h
        refine lv_iinc (v := x1 + (1 : Int32)) (lv' := [(1, .int (x1 + (1 : Int32))), (0, .ref (b + o0)), (2, .int x2)]) hx0 hb dX10_attachedCount_24 hl (k := 1) rfl rfl (by decide) rfl (fun ls hl => ?_)
        refine lv_iinc (v := x2 + (1 : Int32)) (lv' := [(2, .int (x2 + (1 : Int32))), (1, .int (x1 + (1 : Int32))), (0, .ref (b + o0))]) hx0 hb dX10_attachedCount_27 hl (k := 2) rfl rfl (by decide) rfl (fun ls hl => ?_)
        refine lv_goto (tgt := 4) hx0 hb dX10_attachedCount_30 (by decide) ?_
        exact ih (x1 + (1 : Int32)) (x2 + (1 : Int32)) h _ _ _ hW hS (lv_sub hl [2, 1, 0] rfl)
def fX10_attachedCount (o0 : Nat) (σ : Mem) : Option Int32 :=
  (fX10_attachedCount_l4 o0 FU (0 : Int32) (0 : Int32) σ).bind fun q4 => some q4.1
set_option maxRecDepth 100000 in
set_option maxHeartbeats 4000000 in
theorem mX10_attachedCount {l : Launch} {E : Ev} {b : Nat} (o0 : Nat) (ho0 : kd o0 = 10) (σ : Mem) (r : Int32) (h : fX10_attachedCount o0 σ = some r) : Met l yX10_attachedCount (tw yX10_attachedCount cX10_attachedCount 3 (some .int)) { frames := 1, cells := 0, slots := 0, locals := 21 } (va_Pc [.ref (b + o0)] (Pr l E (LC E b) σ)) (Qz E (LC E b) (some (.int r)) σ) 0 0 (La (LC E b)) := by
  refine ct_of (by decide) (Nat.le_of_ble_eq_true rfl) ?_
  intro p e s m below meth c C hW hS ls hl
  have hx0 := C.1
  have hb := C.2.1
  have hl : lv_has ls 3 [(0, .ref (b + o0))] := hl
  unfold fX10_attachedCount at h
  refine lv_iconst (v := (0 : Int32)) hx0 hb dX10_attachedCount_0 (by decide) ?_
  refine lv_istore_n (lv' := [(1, .int (0 : Int32)), (0, .ref (b + o0))]) hx0 hb dX10_attachedCount_1 rfl hl (by decide) rfl (fun ls hl => ?_)
  refine lv_iconst (v := (0 : Int32)) hx0 hb dX10_attachedCount_2 (by decide) ?_
  refine lv_istore_n (lv' := [(2, .int (0 : Int32)), (1, .int (0 : Int32)), (0, .ref (b + o0))]) hx0 hb dX10_attachedCount_3 rfl hl (by decide) rfl (fun ls hl => ?_)
  obtain ⟨q4, h4, h⟩ := bnd h
  try dsimp only at h
  refine bX10_attachedCount_l4 C o0 ho0 σ (q := q4) ?_ FU (0 : Int32) (0 : Int32) h4 _ _ _ hW hS (lv_sub hl [2, 1, 0] rfl)
  intro H locs ls hW hS hl
  refine lv_iload_n hx0 hb dX10_attachedCount_33 rfl (lv_at hl 1 rfl) ?_
  cases h
  exact w_iret C hW hS dX10_attachedCount_34
def fX10_writeMissing_l12 (o0 : Nat) (x1 : Int32) (o2 : Nat) (x3 : Int32) : Nat → Int32 → Int32 → Mem → Option (Int32 × Int32 × Mem)
  | 0, _, _, _ => none
  | n + 1, x4, x5, σ => (fX3_at (o0 + 1) x1 σ).bind fun v19 => if v19 ≤ x5 then (some (x4, x5, σ)) else ((fX10_isPresent o0 (x3 + x5) σ).bind fun v30 => if v30 = 0 then (if x4 = 0 then ((fX8_add o2 (40 : Int32) σ).bind fun v44 => (fX8_add o2 (45 : Int32) v44).bind fun v50 => (fX8_addDecimal o2 (x5 + (1 : Int32)) v50).bind fun v67 => fX10_writeMissing_l12 o0 x1 o2 x3 n (x4 + (1 : Int32)) (x5 + (1 : Int32)) v67) else ((fX8_add o2 (44 : Int32) σ).bind fun v59 => (fX8_addDecimal o2 (x5 + (1 : Int32)) v59).bind fun v67 => fX10_writeMissing_l12 o0 x1 o2 x3 n (x4 + (1 : Int32)) (x5 + (1 : Int32)) v67)) else (fX10_writeMissing_l12 o0 x1 o2 x3 n x4 (x5 + (1 : Int32)) σ))
set_option maxRecDepth 100000 in
set_option maxHeartbeats 4000000 in
theorem bX10_writeMissing_l12 {p : Program} {l : Launch} {e : Env} {s : State} {m : MethodId} {args : Array Value} {below : List Frame} {meth : Method} {c : Code} {E : Ev} {b : Nat} (C : Cx p l s m args meth c E cX10_writeMissing 6 RX10 none) (o0 : Nat) (x1 : Int32) (o2 : Nat) (x3 : Int32) (ho0 : kd o0 = 10) (ho2 : kd o2 = 8) {Qf : State → Prop} {q : Int32 × Int32 × Mem} (hx : ∀ H locs ls, Wd E (LC E b) q.2.2 H → va_S (La (LC E b)) s.heap H locs → lv_has ls 6 [(0, .ref (b + o0)), (1, .int x1), (2, .ref (b + o2)), (3, .int x3), (4, .int q.1), (5, .int q.2.1)] → W p l e { frames := 2, cells := 0, slots := 0, locals := 44 } s m args below meth c H locs 0 0 Qf (F0 m 79 ls [])) : ∀ (n : Nat) (x4 : Int32) (x5 : Int32) (σ : Mem), fX10_writeMissing_l12 o0 x1 o2 x3 n x4 x5 σ = some q → ∀ (H : Heap) (locs : List Loc) (ls : Array Slot), Wd E (LC E b) σ H → va_S (La (LC E b)) s.heap H locs → lv_has ls 6 [(0, .ref (b + o0)), (1, .int x1), (2, .ref (b + o2)), (3, .int x3), (4, .int x4), (5, .int x5)] → W p l e { frames := 2, cells := 0, slots := 0, locals := 44 } s m args below meth c H locs 0 0 Qf (F0 m 12 ls []) := by
  have hx0 := C.1
  have hb := C.2.1
  intro n
  induction n with
  | zero => intro x4 x5 σ h; simp [fX10_writeMissing_l12] at h
  | succ n ih =>
    intro x4 x5 σ h H locs ls hW hS hl
    unfold fX10_writeMissing_l12 at h
    refine lv_iload hx0 hb dX10_writeMissing_12 (lv_at hl 5 rfl) ?_
    refine lv_aload_n hx0 hb dX10_writeMissing_14 rfl (lv_at hl 0 rfl) ?_
    refine gtX10_0 (k := o0) C hW ho0 flX10_14 dX10_writeMissing_15 ?_
    refine lv_iload_n hx0 hb dX10_writeMissing_18 rfl (lv_at hl 1 rfl) ?_
    obtain ⟨v19, h19, h⟩ := bnd h
    try dsimp only at h
    refine w_callV (L := (LC E b)) (k := o0 + 1) (As := [.int x1]) (rest := [.int x5]) C hW hS (kdlt (chX10_0 ho0) (by decide)) (ccX3 (chX10_0 ho0)) kcX3 (mX3_at (o0 + 1) x1 (chX10_0 ho0) σ v19 h19) cwX3_at cvX3_at rfl mlX10_58 ⟨by decide, by decide⟩ rfl hl.1 (Nat.le_of_ble_eq_true rfl) ⟨by decide, by decide⟩ dX10_writeMissing_19 rfl (fun H locs hW hS => ?_)
    refine lv_icmp_ge (tgt := 79) hx0 hb dX10_writeMissing_22 (by decide) (fun c22 => ?_) (fun c22 => ?_)
    · rw [if_pos c22] at h
      cases h
      exact hx _ _ _ hW hS (lv_sub hl [0, 1, 2, 3, 4, 5] rfl)
    · rw [if_neg c22] at h
      refine lv_aload_n hx0 hb dX10_writeMissing_25 rfl (lv_at hl 0 rfl) ?_
      refine lv_iload_n hx0 hb dX10_writeMissing_26 rfl (lv_at hl 3 rfl) ?_
      refine lv_iload hx0 hb dX10_writeMissing_27 (lv_at hl 5 rfl) ?_
      refine lv_iadd hx0 hb dX10_writeMissing_29 ?_
      obtain ⟨v30, h30, h⟩ := bnd h
      try dsimp only at h
      refine w_callV (L := (LC E b)) (k := o0) (As := [.int (x3 + x5)]) (rest := []) C hW hS (kdlt ho0 (by decide)) (ccX10 ho0) kcX10 (mX10_isPresent o0 (x3 + x5) ho0 σ v30 h30) cwX10_isPresent cvX10_isPresent rfl mlX10_77 ⟨by decide, by decide⟩ rfl hl.1 (Nat.le_of_ble_eq_true rfl) ⟨by decide, by decide⟩ dX10_writeMissing_30 rfl (fun H locs hW hS => ?_)
      refine lv_if_ne (tgt := 73) hx0 hb dX10_writeMissing_33 (by decide) (fun c33 => ?_) (fun c33 => ?_)
      · rw [if_neg c33] at h
        refine lv_iinc (v := x5 + (1 : Int32)) (lv' := [(5, .int (x5 + (1 : Int32))), (0, .ref (b + o0)), (1, .int x1), (2, .ref (b + o2)), (3, .int x3), (4, .int x4)]) hx0 hb dX10_writeMissing_73 hl (k := 5) rfl rfl (by decide) rfl (fun ls hl => ?_)
        refine lv_goto (tgt := 12) hx0 hb dX10_writeMissing_76 (by decide) ?_
        exact ih x4 (x5 + (1 : Int32)) σ h _ _ _ hW hS (lv_sub hl [1, 2, 3, 4, 5, 0] rfl)
      · rw [if_pos c33] at h
        refine lv_iload hx0 hb dX10_writeMissing_36 (lv_at hl 4 rfl) ?_
        refine lv_if_ne (tgt := 56) hx0 hb dX10_writeMissing_38 (by decide) (fun c38 => ?_) (fun c38 => ?_)
        · rw [if_neg c38] at h
          refine lv_aload_n hx0 hb dX10_writeMissing_56 rfl (lv_at hl 2 rfl) ?_
          refine lv_bipush (v := (44 : Int32)) hx0 hb dX10_writeMissing_57 (by decide) ?_
          obtain ⟨v59, h59, h⟩ := bnd h
          try dsimp only at h
          refine w_callV (L := (LC E b)) (k := o2) (As := [.int (44 : Int32)]) (rest := []) C hW hS (kdlt ho2 (by decide)) (ccX8 ho2) kcX8 (mX8_add o2 (44 : Int32) ho2 σ v59 h59) cwX8_add cvX8_add rfl mlX10_104 ⟨by decide, by decide⟩ rfl hl.1 (Nat.le_of_ble_eq_true rfl) ⟨by decide, by decide⟩ dX10_writeMissing_59 rfl (fun H locs hW hS => ?_)
          refine lv_aload_n hx0 hb dX10_writeMissing_62 rfl (lv_at hl 2 rfl) ?_
          refine lv_iload hx0 hb dX10_writeMissing_63 (lv_at hl 5 rfl) ?_
          refine lv_iconst (v := (1 : Int32)) hx0 hb dX10_writeMissing_65 (by decide) ?_
          refine lv_iadd hx0 hb dX10_writeMissing_66 ?_
          obtain ⟨v67, h67, h⟩ := bnd h
          try dsimp only at h
          refine w_callV (L := (LC E b)) (k := o2) (As := [.int (x5 + (1 : Int32))]) (rest := []) C hW hS (kdlt ho2 (by decide)) (ccX8 ho2) kcX8 (mX8_addDecimal o2 (x5 + (1 : Int32)) ho2 v59 v67 h67) cwX8_addDecimal cvX8_addDecimal rfl mlX10_109 ⟨by decide, by decide⟩ rfl hl.1 (Nat.le_of_ble_eq_true rfl) ⟨by decide, by decide⟩ dX10_writeMissing_67 rfl (fun H locs hW hS => ?_)
          refine lv_iinc (v := x4 + (1 : Int32)) (lv' := [(4, .int (x4 + (1 : Int32))), (0, .ref (b + o0)), (1, .int x1), (2, .ref (b + o2)), (3, .int x3), (5, .int x5)]) hx0 hb dX10_writeMissing_70 hl (k := 4) rfl rfl (by decide) rfl (fun ls hl => ?_)
          refine lv_iinc (v := x5 + (1 : Int32)) (lv' := [(5, .int (x5 + (1 : Int32))), (4, .int (x4 + (1 : Int32))), (0, .ref (b + o0)), (1, .int x1), (2, .ref (b + o2)), (3, .int x3)]) hx0 hb dX10_writeMissing_73 hl (k := 5) rfl rfl (by decide) rfl (fun ls hl => ?_)
          refine lv_goto (tgt := 12) hx0 hb dX10_writeMissing_76 (by decide) ?_
          exact ih (x4 + (1 : Int32)) (x5 + (1 : Int32)) v67 h _ _ _ hW hS (lv_sub hl [2, 3, 4, 5, 1, 0] rfl)
        · rw [if_pos c38] at h
          refine lv_aload_n hx0 hb dX10_writeMissing_41 rfl (lv_at hl 2 rfl) ?_
          refine lv_bipush (v := (40 : Int32)) hx0 hb dX10_writeMissing_42 (by decide) ?_
          obtain ⟨v44, h44, h⟩ := bnd h
          try dsimp only at h
          refine w_callV (L := (LC E b)) (k := o2) (As := [.int (40 : Int32)]) (rest := []) C hW hS (kdlt ho2 (by decide)) (ccX8 ho2) kcX8 (mX8_add o2 (40 : Int32) ho2 σ v44 h44) cwX8_add cvX8_add rfl mlX10_104 ⟨by decide, by decide⟩ rfl hl.1 (Nat.le_of_ble_eq_true rfl) ⟨by decide, by decide⟩ dX10_writeMissing_44 rfl (fun H locs hW hS => ?_)
          refine lv_aload_n hx0 hb dX10_writeMissing_47 rfl (lv_at hl 2 rfl) ?_
          refine lv_bipush (v := (45 : Int32)) hx0 hb dX10_writeMissing_48 (by decide) ?_
          obtain ⟨v50, h50, h⟩ := bnd h
          try dsimp only at h
          refine w_callV (L := (LC E b)) (k := o2) (As := [.int (45 : Int32)]) (rest := []) C hW hS (kdlt ho2 (by decide)) (ccX8 ho2) kcX8 (mX8_add o2 (45 : Int32) ho2 v44 v50 h50) cwX8_add cvX8_add rfl mlX10_104 ⟨by decide, by decide⟩ rfl hl.1 (Nat.le_of_ble_eq_true rfl) ⟨by decide, by decide⟩ dX10_writeMissing_50 rfl (fun H locs hW hS => ?_)
          refine lv_goto (tgt := 62) hx0 hb dX10_writeMissing_53 (by decide) ?_
          refine lv_aload_n hx0 hb dX10_writeMissing_62 rfl (lv_at hl 2 rfl) ?_
          refine lv_iload hx0 hb dX10_writeMissing_63 (lv_at hl 5 rfl) ?_
          refine lv_iconst (v := (1 : Int32)) hx0 hb dX10_writeMissing_65 (by decide) ?_
          refine lv_iadd hx0 hb dX10_writeMissing_66 ?_
          obtain ⟨v67, h67, h⟩ := bnd h
          try dsimp only at h
          refine w_callV (L := (LC E b)) (k := o2) (As := [.int (x5 + (1 : Int32))]) (rest := []) C hW hS (kdlt ho2 (by decide)) (ccX8 ho2) kcX8 (mX8_addDecimal o2 (x5 + (1 : Int32)) ho2 v50 v67 h67) cwX8_addDecimal cvX8_addDecimal rfl mlX10_109 ⟨by decide, by decide⟩ rfl hl.1 (Nat.le_of_ble_eq_true rfl) ⟨by decide, by decide⟩ dX10_writeMissing_67 rfl (fun H locs hW hS => ?_)
          refine lv_iinc (v := x4 + (1 : Int32)) (lv' := [(4, .int (x4 + (1 : Int32))), (0, .ref (b + o0)), (1, .int x1), (2, .ref (b + o2)), (3, .int x3), (5, .int x5)]) hx0 hb dX10_writeMissing_70 hl (k := 4) rfl rfl (by decide) rfl (fun ls hl => ?_)
          refine lv_iinc (v := x5 + (1 : Int32)) (lv' := [(5, .int (x5 + (1 : Int32))), (4, .int (x4 + (1 : Int32))), (0, .ref (b + o0)), (1, .int x1), (2, .ref (b + o2)), (3, .int x3)]) hx0 hb dX10_writeMissing_73 hl (k := 5) rfl rfl (by decide) rfl (fun ls hl => ?_)
          refine lv_goto (tgt := 12) hx0 hb dX10_writeMissing_76 (by decide) ?_
          exact ih (x4 + (1 : Int32)) (x5 + (1 : Int32)) v67 h _ _ _ hW hS (lv_sub hl [2, 3, 4, 5, 1, 0] rfl)
def fX10_writeMissing (o0 : Nat) (x1 : Int32) (o2 : Nat) (σ : Mem) : Option Mem :=
  (fX10_firstLeafOf o0 x1 σ).bind fun v2 => (fX10_writeMissing_l12 o0 x1 o2 v2 FU (0 : Int32) (0 : Int32) σ).bind fun q12 => if q12.1 ≤ 0 then (some q12.2.2) else ((fX8_add o2 (41 : Int32) q12.2.2).bind fun v87 => some v87)
set_option maxRecDepth 100000 in
set_option maxHeartbeats 4000000 in
theorem mX10_writeMissing {l : Launch} {E : Ev} {b : Nat} (o0 : Nat) (x1 : Int32) (o2 : Nat) (ho0 : kd o0 = 10) (ho2 : kd o2 = 8) (σ : Mem) (r : Mem) (h : fX10_writeMissing o0 x1 o2 σ = some r) : Met l yX10_writeMissing (tw yX10_writeMissing cX10_writeMissing 6 none) { frames := 2, cells := 0, slots := 0, locals := 44 } (va_Pc [.ref (b + o0), .int x1, .ref (b + o2)] (Pr l E (LC E b) σ)) (Qz E (LC E b) none r) 0 0 (La (LC E b)) := by
  refine ct_of (by decide) (Nat.le_of_ble_eq_true rfl) ?_
  intro p e s m below meth c C hW hS ls hl
  have hx0 := C.1
  have hb := C.2.1
  have hl : lv_has ls 6 [(0, .ref (b + o0)), (1, .int x1), (2, .ref (b + o2))] := hl
  unfold fX10_writeMissing at h
  refine lv_aload_n hx0 hb dX10_writeMissing_0 rfl (lv_at hl 0 rfl) ?_
  refine lv_iload_n hx0 hb dX10_writeMissing_1 rfl (lv_at hl 1 rfl) ?_
  obtain ⟨v2, h2, h⟩ := bnd h
  try dsimp only at h
  refine w_callV (L := (LC E b)) (k := o0) (As := [.int x1]) (rest := []) C hW hS (kdlt ho0 (by decide)) (ccX10 ho0) kcX10 (mX10_firstLeafOf o0 x1 ho0 σ v2 h2) cwX10_firstLeafOf cvX10_firstLeafOf rfl mlX10_65 ⟨by decide, by decide⟩ rfl hl.1 (Nat.le_of_ble_eq_true rfl) ⟨by decide, by decide⟩ dX10_writeMissing_2 rfl (fun H locs hW hS => ?_)
  refine lv_istore_n (lv' := [(3, .int v2), (0, .ref (b + o0)), (1, .int x1), (2, .ref (b + o2))]) hx0 hb dX10_writeMissing_5 rfl hl (by decide) rfl (fun ls hl => ?_)
  refine lv_iconst (v := (0 : Int32)) hx0 hb dX10_writeMissing_6 (by decide) ?_
  refine lv_istore (lv' := [(4, .int (0 : Int32)), (3, .int v2), (0, .ref (b + o0)), (1, .int x1), (2, .ref (b + o2))]) hx0 hb dX10_writeMissing_7 hl (by decide) rfl (fun ls hl => ?_)
  refine lv_iconst (v := (0 : Int32)) hx0 hb dX10_writeMissing_9 (by decide) ?_
  refine lv_istore (lv' := [(5, .int (0 : Int32)), (4, .int (0 : Int32)), (3, .int v2), (0, .ref (b + o0)), (1, .int x1), (2, .ref (b + o2))]) hx0 hb dX10_writeMissing_10 hl (by decide) rfl (fun ls hl => ?_)
  obtain ⟨q12, h12, h⟩ := bnd h
  try dsimp only at h
  refine bX10_writeMissing_l12 C o0 x1 o2 v2 ho0 ho2 (q := q12) ?_ FU (0 : Int32) (0 : Int32) σ h12 _ _ _ hW hS (lv_sub hl [3, 4, 5, 2, 1, 0] rfl)
  intro H locs ls hW hS hl
  refine lv_iload hx0 hb dX10_writeMissing_79 (lv_at hl 4 rfl) ?_
  refine lv_if_le (tgt := 90) hx0 hb dX10_writeMissing_81 (by decide) (fun c81 => ?_) (fun c81 => ?_)
  · rw [if_pos c81] at h
    cases h
    exact w_vret C hW hS dX10_writeMissing_90
  · rw [if_neg c81] at h
    refine lv_aload_n hx0 hb dX10_writeMissing_84 rfl (lv_at hl 2 rfl) ?_
    refine lv_bipush (v := (41 : Int32)) hx0 hb dX10_writeMissing_85 (by decide) ?_
    obtain ⟨v87, h87, h⟩ := bnd h
    try dsimp only at h
    refine w_callV (L := (LC E b)) (k := o2) (As := [.int (41 : Int32)]) (rest := []) C hW hS (kdlt ho2 (by decide)) (ccX8 ho2) kcX8 (mX8_add o2 (41 : Int32) ho2 q12.2.2 v87 h87) cwX8_add cvX8_add rfl mlX10_104 ⟨by decide, by decide⟩ rfl hl.1 (Nat.le_of_ble_eq_true rfl) ⟨by decide, by decide⟩ dX10_writeMissing_87 rfl (fun H locs hW hS => ?_)
    cases h
    exact w_vret C hW hS dX10_writeMissing_90
def fX10_writeCollation_j20 (rec : Int32 → Mem → Option (Int32 × Mem)) (o0 : Nat) (o1 : Nat) (x2 : Int32) (σ : Mem) : Option (Int32 × Mem) :=
  (fX8_add o1 ((65 : Int32) + x2) σ).bind fun v25 => (fX3_at (o0 + 1) x2 v25).bind fun v34 => (fX8_addDecimal o1 v34 v25).bind fun v37 => (fX10_writeMissing o0 x2 o1 v37).bind fun v43 => rec (x2 + (1 : Int32)) v43
set_option maxRecDepth 100000 in
set_option maxHeartbeats 4000000 in
theorem bX10_writeCollation_j20 {p : Program} {l : Launch} {e : Env} {s : State} {m : MethodId} {args : Array Value} {below : List Frame} {meth : Method} {c : Code} {E : Ev} {b : Nat} (C : Cx p l s m args meth c E cX10_writeCollation 3 RX10 none) (o0 : Nat) (o1 : Nat) (x2 : Int32) (ho0 : kd o0 = 10) (ho1 : kd o1 = 8) {Qf : State → Prop} {q : Int32 × Mem} (hx : ∀ H locs ls, Wd E (LC E b) q.2 H → va_S (La (LC E b)) s.heap H locs → lv_has ls 3 [(0, .ref (b + o0)), (1, .ref (b + o1)), (2, .int q.1)] → W p l e { frames := 3, cells := 0, slots := 0, locals := 69 } s m args below meth c H locs 0 0 Qf (F0 m 52 ls [])) (rec : Int32 → Mem → Option (Int32 × Mem)) (ih : ∀ (x2 : Int32) (σ : Mem), rec x2 σ = some q → ∀ (H : Heap) (locs : List Loc) (ls : Array Slot), Wd E (LC E b) σ H → va_S (La (LC E b)) s.heap H locs → lv_has ls 3 [(0, .ref (b + o0)), (1, .ref (b + o1)), (2, .int x2)] → W p l e { frames := 3, cells := 0, slots := 0, locals := 69 } s m args below meth c H locs 0 0 Qf (F0 m 2 ls [])) (σ : Mem) (h : fX10_writeCollation_j20 rec o0 o1 x2 σ = some q) (H : Heap) (locs : List Loc) (ls : Array Slot) (hW : Wd E (LC E b) σ H) (hS : va_S (La (LC E b)) s.heap H locs) (hl : lv_has ls 3 [(0, .ref (b + o0)), (1, .ref (b + o1)), (2, .int x2)]) : W p l e { frames := 3, cells := 0, slots := 0, locals := 69 } s m args below meth c H locs 0 0 Qf (F0 m 20 ls []) := by
  have hx0 := C.1
  have hb := C.2.1
  unfold fX10_writeCollation_j20 at h
  refine lv_aload_n hx0 hb dX10_writeCollation_20 rfl (lv_at hl 1 rfl) ?_
  refine lv_bipush (v := (65 : Int32)) hx0 hb dX10_writeCollation_21 (by decide) ?_
  refine lv_iload_n hx0 hb dX10_writeCollation_23 rfl (lv_at hl 2 rfl) ?_
  refine lv_iadd hx0 hb dX10_writeCollation_24 ?_
  obtain ⟨v25, h25, h⟩ := bnd h
  try dsimp only at h
  refine w_callV (L := (LC E b)) (k := o1) (As := [.int ((65 : Int32) + x2)]) (rest := []) C hW hS (kdlt ho1 (by decide)) (ccX8 ho1) kcX8 (mX8_add o1 ((65 : Int32) + x2) ho1 σ v25 h25) cwX8_add cvX8_add rfl mlX10_104 ⟨by decide, by decide⟩ rfl hl.1 (Nat.le_of_ble_eq_true rfl) ⟨by decide, by decide⟩ dX10_writeCollation_25 rfl (fun H locs hW hS => ?_)
  refine lv_aload_n hx0 hb dX10_writeCollation_28 rfl (lv_at hl 1 rfl) ?_
  refine lv_aload_n hx0 hb dX10_writeCollation_29 rfl (lv_at hl 0 rfl) ?_
  refine gtX10_0 (k := o0) C hW ho0 flX10_14 dX10_writeCollation_30 ?_
  refine lv_iload_n hx0 hb dX10_writeCollation_33 rfl (lv_at hl 2 rfl) ?_
  obtain ⟨v34, h34, h⟩ := bnd h
  try dsimp only at h
  refine w_callV (L := (LC E b)) (k := o0 + 1) (As := [.int x2]) (rest := [.ref (b + o1)]) C hW hS (kdlt (chX10_0 ho0) (by decide)) (ccX3 (chX10_0 ho0)) kcX3 (mX3_at (o0 + 1) x2 (chX10_0 ho0) v25 v34 h34) cwX3_at cvX3_at rfl mlX10_58 ⟨by decide, by decide⟩ rfl hl.1 (Nat.le_of_ble_eq_true rfl) ⟨by decide, by decide⟩ dX10_writeCollation_34 rfl (fun H locs hW hS => ?_)
  obtain ⟨v37, h37, h⟩ := bnd h
  try dsimp only at h
  refine w_callV (L := (LC E b)) (k := o1) (As := [.int v34]) (rest := []) C hW hS (kdlt ho1 (by decide)) (ccX8 ho1) kcX8 (mX8_addDecimal o1 v34 ho1 v25 v37 h37) cwX8_addDecimal cvX8_addDecimal rfl mlX10_109 ⟨by decide, by decide⟩ rfl hl.1 (Nat.le_of_ble_eq_true rfl) ⟨by decide, by decide⟩ dX10_writeCollation_37 rfl (fun H locs hW hS => ?_)
  refine lv_aload_n hx0 hb dX10_writeCollation_40 rfl (lv_at hl 0 rfl) ?_
  refine lv_iload_n hx0 hb dX10_writeCollation_41 rfl (lv_at hl 2 rfl) ?_
  refine lv_aload_n hx0 hb dX10_writeCollation_42 rfl (lv_at hl 1 rfl) ?_
  obtain ⟨v43, h43, h⟩ := bnd h
  try dsimp only at h
  refine w_callV (L := (LC E b)) (k := o0) (As := [.int x2, .ref (b + o1)]) (rest := []) C hW hS (kdlt ho0 (by decide)) (ccX10 ho0) kcX10 (mX10_writeMissing o0 x2 o1 ho0 ho1 v37 v43 h43) cwX10_writeMissing cvX10_writeMissing rfl mlX10_112 ⟨by decide, by decide⟩ rfl hl.1 (Nat.le_of_ble_eq_true rfl) ⟨by decide, by decide⟩ dX10_writeCollation_43 rfl (fun H locs hW hS => ?_)
  refine lv_iinc (v := x2 + (1 : Int32)) (lv' := [(2, .int (x2 + (1 : Int32))), (0, .ref (b + o0)), (1, .ref (b + o1))]) hx0 hb dX10_writeCollation_46 hl (k := 2) rfl rfl (by decide) rfl (fun ls hl => ?_)
  refine lv_goto (tgt := 2) hx0 hb dX10_writeCollation_49 (by decide) ?_
  exact ih (x2 + (1 : Int32)) v43 h _ _ _ hW hS (lv_sub hl [1, 2, 0] rfl)
def fX10_writeCollation_l2 (o0 : Nat) (o1 : Nat) : Nat → Int32 → Mem → Option (Int32 × Mem)
  | 0, _, _ => none
  | n + 1, x2, σ => if (σ o0 5) ≤ x2 then (some (x2, σ)) else (if x2 ≤ 0 then (fX10_writeCollation_j20 (fX10_writeCollation_l2 o0 o1 n) o0 o1 x2 σ) else ((fX8_add o1 (32 : Int32) σ).bind fun v17 => fX10_writeCollation_j20 (fX10_writeCollation_l2 o0 o1 n) o0 o1 x2 v17))
set_option maxRecDepth 100000 in
set_option maxHeartbeats 4000000 in
theorem bX10_writeCollation_l2 {p : Program} {l : Launch} {e : Env} {s : State} {m : MethodId} {args : Array Value} {below : List Frame} {meth : Method} {c : Code} {E : Ev} {b : Nat} (C : Cx p l s m args meth c E cX10_writeCollation 3 RX10 none) (o0 : Nat) (o1 : Nat) (ho0 : kd o0 = 10) (ho1 : kd o1 = 8) {Qf : State → Prop} {q : Int32 × Mem} (hx : ∀ H locs ls, Wd E (LC E b) q.2 H → va_S (La (LC E b)) s.heap H locs → lv_has ls 3 [(0, .ref (b + o0)), (1, .ref (b + o1)), (2, .int q.1)] → W p l e { frames := 3, cells := 0, slots := 0, locals := 69 } s m args below meth c H locs 0 0 Qf (F0 m 52 ls [])) : ∀ (n : Nat) (x2 : Int32) (σ : Mem), fX10_writeCollation_l2 o0 o1 n x2 σ = some q → ∀ (H : Heap) (locs : List Loc) (ls : Array Slot), Wd E (LC E b) σ H → va_S (La (LC E b)) s.heap H locs → lv_has ls 3 [(0, .ref (b + o0)), (1, .ref (b + o1)), (2, .int x2)] → W p l e { frames := 3, cells := 0, slots := 0, locals := 69 } s m args below meth c H locs 0 0 Qf (F0 m 2 ls []) := by
  have hx0 := C.1
  have hb := C.2.1
  intro n
  induction n with
  | zero => intro x2 σ h; simp [fX10_writeCollation_l2] at h
  | succ n ih =>
    intro x2 σ h H locs ls hW hS hl
    unfold fX10_writeCollation_l2 at h
    refine lv_iload_n hx0 hb dX10_writeCollation_2 rfl (lv_at hl 2 rfl) ?_
    refine lv_aload_n hx0 hb dX10_writeCollation_3 rfl (lv_at hl 0 rfl) ?_
    refine gtX10_5 (k := o0) C hW ho0 flX10_32 dX10_writeCollation_4 ?_
    refine lv_icmp_ge (tgt := 52) hx0 hb dX10_writeCollation_7 (by decide) (fun c7 => ?_) (fun c7 => ?_)
    · rw [if_pos c7] at h
      cases h
      exact hx _ _ _ hW hS (lv_sub hl [0, 1, 2] rfl)
    · rw [if_neg c7] at h
      refine lv_iload_n hx0 hb dX10_writeCollation_10 rfl (lv_at hl 2 rfl) ?_
      refine lv_if_le (tgt := 20) hx0 hb dX10_writeCollation_11 (by decide) (fun c11 => ?_) (fun c11 => ?_)
      · rw [if_pos c11] at h
        exact bX10_writeCollation_j20 C o0 o1 x2 ho0 ho1 hx _ ih σ h _ _ _ hW hS (lv_sub hl [0, 1, 2] rfl)
      · rw [if_neg c11] at h
        refine lv_aload_n hx0 hb dX10_writeCollation_14 rfl (lv_at hl 1 rfl) ?_
        refine lv_bipush (v := (32 : Int32)) hx0 hb dX10_writeCollation_15 (by decide) ?_
        obtain ⟨v17, h17, h⟩ := bnd h
        try dsimp only at h
        refine w_callV (L := (LC E b)) (k := o1) (As := [.int (32 : Int32)]) (rest := []) C hW hS (kdlt ho1 (by decide)) (ccX8 ho1) kcX8 (mX8_add o1 (32 : Int32) ho1 σ v17 h17) cwX8_add cvX8_add rfl mlX10_104 ⟨by decide, by decide⟩ rfl hl.1 (Nat.le_of_ble_eq_true rfl) ⟨by decide, by decide⟩ dX10_writeCollation_17 rfl (fun H locs hW hS => ?_)
        exact bX10_writeCollation_j20 C o0 o1 x2 ho0 ho1 hx _ ih v17 h _ _ _ hW hS (lv_sub hl [0, 1, 2] rfl)
def fX10_writeCollation (o0 : Nat) (o1 : Nat) (σ : Mem) : Option Mem :=
  (fX10_writeCollation_l2 o0 o1 FU (0 : Int32) σ).bind fun q2 => some q2.2
set_option maxRecDepth 100000 in
set_option maxHeartbeats 4000000 in
theorem mX10_writeCollation {l : Launch} {E : Ev} {b : Nat} (o0 : Nat) (o1 : Nat) (ho0 : kd o0 = 10) (ho1 : kd o1 = 8) (σ : Mem) (r : Mem) (h : fX10_writeCollation o0 o1 σ = some r) : Met l yX10_writeCollation (tw yX10_writeCollation cX10_writeCollation 3 none) { frames := 3, cells := 0, slots := 0, locals := 69 } (va_Pc [.ref (b + o0), .ref (b + o1)] (Pr l E (LC E b) σ)) (Qz E (LC E b) none r) 0 0 (La (LC E b)) := by
  refine ct_of (by decide) (Nat.le_of_ble_eq_true rfl) ?_
  intro p e s m below meth c C hW hS ls hl
  have hx0 := C.1
  have hb := C.2.1
  have hl : lv_has ls 3 [(0, .ref (b + o0)), (1, .ref (b + o1))] := hl
  unfold fX10_writeCollation at h
  refine lv_iconst (v := (0 : Int32)) hx0 hb dX10_writeCollation_0 (by decide) ?_
  refine lv_istore_n (lv' := [(2, .int (0 : Int32)), (0, .ref (b + o0)), (1, .ref (b + o1))]) hx0 hb dX10_writeCollation_1 rfl hl (by decide) rfl (fun ls hl => ?_)
  obtain ⟨q2, h2, h⟩ := bnd h
  try dsimp only at h
  refine bX10_writeCollation_l2 C o0 o1 ho0 ho1 (q := q2) ?_ FU (0 : Int32) σ h2 _ _ _ hW hS (lv_sub hl [1, 2, 0] rfl)
  intro H locs ls hW hS hl
  cases h
  exact w_vret C hW hS dX10_writeCollation_52
