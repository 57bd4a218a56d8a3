/-! PageArchive$Row, by program out of the bytecode -/
def fX3_at (o0 : Nat) (x1 : Int32) (σ : Mem) : Option Int32 :=
  if x1 < 0 then (some (0 : Int32)) else (if (Int32.ofNat (ln (o0 + 1))) ≤ x1 then (some (0 : Int32)) else (if x1 < 0 ∨ ln (o0 + 1) ≤ x1.toNatClampNeg then none else some (σ (o0 + 1) x1.toNatClampNeg)))
set_option maxRecDepth 100000 in
set_option maxHeartbeats 4000000 in
theorem mX3_at {l : Launch} {E : Ev} {b : Nat} (o0 : Nat) (x1 : Int32) (ho0 : kd o0 = 3) (σ : Mem) (r : Int32) (h : fX3_at o0 x1 σ = some r) : Met l yX3_at (tw yX3_at cX3_at 2 (some .int)) { frames := 0, cells := 0, slots := 0, locals := 0 } (va_Pc [.ref (b + o0), .int x1] (Pr l E (LC E b) σ)) (Qz E (LC E b) (some (.int r)) σ) 0 0 (La (LC E b)) := by
  refine ct_of (by decide) (Nat.le_of_ble_eq_true rfl) ?_
  intro p e s m below meth c C hW hS ls hl
  have hx0 := C.1
  have hb := C.2.1
  have hl : lv_has ls 2 [(0, .ref (b + o0)), (1, .int x1)] := hl
  unfold fX3_at at h
  refine lv_iload_n hx0 hb dX3_at_0 rfl (lv_at hl 1 rfl) ?_
  refine lv_if_lt (tgt := 22) hx0 hb dX3_at_1 (by decide) (fun c1 => ?_) (fun c1 => ?_)
  · rw [if_pos c1] at h
    refine lv_iconst (v := (0 : Int32)) hx0 hb dX3_at_22 (by decide) ?_
    cases h
    exact w_iret C hW hS dX3_at_23
  · rw [if_neg c1] at h
    refine lv_iload_n hx0 hb dX3_at_4 rfl (lv_at hl 1 rfl) ?_
    refine lv_aload_n hx0 hb dX3_at_5 rfl (lv_at hl 0 rfl) ?_
    refine gtX3_0 (k := o0) C hW ho0 flX3_7 dX3_at_6 ?_
    refine alA (k := o0 + 1) C hW (chX3_0 ho0) dX3_at_9 ?_
    refine lv_icmp_ge (tgt := 22) hx0 hb dX3_at_10 (by decide) (fun c10 => ?_) (fun c10 => ?_)
    · rw [if_pos c10] at h
      refine lv_iconst (v := (0 : Int32)) hx0 hb dX3_at_22 (by decide) ?_
      cases h
      exact w_iret C hW hS dX3_at_23
    · rw [if_neg c10] at h
      refine lv_aload_n hx0 hb dX3_at_13 rfl (lv_at hl 0 rfl) ?_
      refine gtX3_0 (k := o0) C hW ho0 flX3_7 dX3_at_14 ?_
      refine lv_iload_n hx0 hb dX3_at_17 rfl (lv_at hl 1 rfl) ?_
      by_cases z18 : x1 < 0 ∨ ln (o0 + 1) ≤ x1.toNatClampNeg
      · rw [if_pos z18] at h; cases h
      rw [if_neg z18] at h
      refine ldA (k := o0 + 1) C hW (chX3_0 ho0) z18 dX3_at_18 ?_
      refine lv_goto (tgt := 23) hx0 hb dX3_at_19 (by decide) ?_
      cases h
      exact w_iret C hW hS dX3_at_23
def fX3_put (o0 : Nat) (x1 : Int32) (x2 : Int32) (σ : Mem) : Option Mem :=
  if x1 < 0 then (some σ) else (if (Int32.ofNat (ln (o0 + 1))) ≤ x1 then (some σ) else (if x1 < 0 ∨ ln (o0 + 1) ≤ x1.toNatClampNeg then none else some (up σ (o0 + 1) x1.toNatClampNeg x2)))
set_option maxRecDepth 100000 in
set_option maxHeartbeats 4000000 in
theorem mX3_put {l : Launch} {E : Ev} {b : Nat} (o0 : Nat) (x1 : Int32) (x2 : Int32) (ho0 : kd o0 = 3) (σ : Mem) (r : Mem) (h : fX3_put o0 x1 x2 σ = some r) : Met l yX3_put (tw yX3_put cX3_put 3 none) { frames := 0, cells := 0, slots := 0, locals := 0 } (va_Pc [.ref (b + o0), .int x1, .int x2] (Pr l E (LC E b) σ)) (Qz E (LC E b) none r) 0 0 (La (LC E b)) := by
  refine ct_of (by decide) (Nat.le_of_ble_eq_true rfl) ?_
  intro p e s m below meth c C hW hS ls hl
  have hx0 := C.1
  have hb := C.2.1
  have hl : lv_has ls 3 [(0, .ref (b + o0)), (1, .int x1), (2, .int x2)] := hl
  unfold fX3_put at h
  refine lv_iload_n hx0 hb dX3_put_0 rfl (lv_at hl 1 rfl) ?_
  refine lv_if_lt (tgt := 20) hx0 hb dX3_put_1 (by decide) (fun c1 => ?_) (fun c1 => ?_)
  · rw [if_pos c1] at h
    cases h
    exact w_vret C hW hS dX3_put_20
  · rw [if_neg c1] at h
    refine lv_iload_n hx0 hb dX3_put_4 rfl (lv_at hl 1 rfl) ?_
    refine lv_aload_n hx0 hb dX3_put_5 rfl (lv_at hl 0 rfl) ?_
    refine gtX3_0 (k := o0) C hW ho0 flX3_7 dX3_put_6 ?_
    refine alA (k := o0 + 1) C hW (chX3_0 ho0) dX3_put_9 ?_
    refine lv_icmp_ge (tgt := 20) hx0 hb dX3_put_10 (by decide) (fun c10 => ?_) (fun c10 => ?_)
    · rw [if_pos c10] at h
      cases h
      exact w_vret C hW hS dX3_put_20
    · rw [if_neg c10] at h
      refine lv_aload_n hx0 hb dX3_put_13 rfl (lv_at hl 0 rfl) ?_
      refine gtX3_0 (k := o0) C hW ho0 flX3_7 dX3_put_14 ?_
      refine lv_iload_n hx0 hb dX3_put_17 rfl (lv_at hl 1 rfl) ?_
      refine lv_iload_n hx0 hb dX3_put_18 rfl (lv_at hl 2 rfl) ?_
      by_cases z19 : x1 < 0 ∨ ln (o0 + 1) ≤ x1.toNatClampNeg
      · rw [if_pos z19] at h; cases h
      rw [if_neg z19] at h
      refine saA (k := o0 + 1) C hW hS (chX3_0 ho0) z19 dX3_put_19 (fun H locs hW hS => ?_)
      cases h
      exact w_vret C hW hS dX3_put_20
def fJ7_fill_53178_l5 (o0 : Nat) (x1 : Int32) (x3 : Int32) : Nat → Int32 → Mem → Option (Int32 × Mem)
  | 0, _, _ => none
  | n + 1, x2, σ => if x3 ≤ x2 then (some (x2, σ)) else (if x2 < 0 ∨ ln o0 ≤ x2.toNatClampNeg then none else fJ7_fill_53178_l5 o0 x1 x3 n (x2 + (1 : Int32)) (up σ o0 x2.toNatClampNeg x1))
set_option maxRecDepth 100000 in
set_option maxHeartbeats 4000000 in
theorem bJ7_fill_53178_l5 {p : Program} {l : Launch} {e : Env} {s : State} {m : MethodId} {args : Array Value} {below : List Frame} {meth : Method} {c : Code} {E : Ev} {b : Nat} (C : Cx p l s m args meth c E cJ7_fill_53178 4 RJ7 none) (o0 : Nat) (x1 : Int32) (x3 : Int32) (ho0 : 100 ≤ kd o0) {Qf : State → Prop} {q : Int32 × Mem} (hx : ∀ H locs ls, Wd E (LC E b) q.2 H → va_S (La (LC E b)) s.heap H locs → lv_has ls 4 [(0, .ref (b + o0)), (1, .int x1), (2, .int q.1), (3, .int x3)] → W p l e { frames := 0, cells := 0, slots := 0, locals := 0 } s m args below meth c H locs 0 0 Qf (F0 m 20 ls [])) : ∀ (n : Nat) (x2 : Int32) (σ : Mem), fJ7_fill_53178_l5 o0 x1 x3 n x2 σ = some q → ∀ (H : Heap) (locs : List Loc) (ls : Array Slot), Wd E (LC E b) σ H → va_S (La (LC E b)) s.heap H locs → lv_has ls 4 [(0, .ref (b + o0)), (1, .int x1), (2, .int x2), (3, .int x3)] → W p l e { frames := 0, cells := 0, slots := 0, locals := 0 } s m args below meth c H locs 0 0 Qf (F0 m 5 ls []) := by
  have hx0 := C.1
  have hb := C.2.1
  intro n
  induction n with
  | zero => intro x2 σ h; simp [fJ7_fill_53178_l5] at h
  | succ n ih =>
    intro x2 σ h H locs ls hW hS hl
    unfold fJ7_fill_53178_l5 at h
    refine lv_iload_n hx0 hb dJ7_fill_53178_5 rfl (lv_at hl 2 rfl) ?_
    refine lv_iload_n hx0 hb dJ7_fill_53178_6 rfl (lv_at hl 3 rfl) ?_
    refine lv_icmp_ge (tgt := 20) hx0 hb dJ7_fill_53178_7 (by decide) (fun c7 => ?_) (fun c7 => ?_)
    · rw [if_pos c7] at h
      cases h
      exact hx _ _ _ hW hS (lv_sub hl [0, 1, 2, 3] rfl)
    · rw [if_neg c7] at h
      refine lv_aload_n hx0 hb dJ7_fill_53178_10 rfl (lv_at hl 0 rfl) ?_
      refine lv_iload_n hx0 hb dJ7_fill_53178_11 rfl (lv_at hl 2 rfl) ?_
      refine lv_iload_n hx0 hb dJ7_fill_53178_12 rfl (lv_at hl 1 rfl) ?_
      by_cases z13 : x2 < 0 ∨ ln o0 ≤ x2.toNatClampNeg
      · rw [if_pos z13] at h; cases h
      rw [if_neg z13] at h
      refine saA (k := o0) C hW hS ho0 z13 dJ7_fill_53178_13 (fun H locs hW hS => ?_)
      refine lv_iinc (v := x2 + (1 : Int32)) (lv' := [(2, .int (x2 + (1 : Int32))), (0, .ref (b + o0)), (1, .int x1), (3, .int x3)]) hx0 hb dJ7_fill_53178_14 hl (k := 2) rfl rfl (by decide) rfl (fun ls hl => ?_)
      refine lv_goto (tgt := 5) hx0 hb dJ7_fill_53178_17 (by decide) ?_
      exact ih (x2 + (1 : Int32)) (up σ o0 x2.toNatClampNeg x1) h _ _ _ hW hS (lv_sub hl [1, 2, 0, 3] rfl)
def fJ7_fill_53178 (o0 : Nat) (x1 : Int32) (σ : Mem) : Option Mem :=
  (fJ7_fill_53178_l5 o0 x1 (Int32.ofNat (ln o0)) FU (0 : Int32) σ).bind fun q5 => some q5.2
set_option maxRecDepth 100000 in
set_option maxHeartbeats 4000000 in
theorem mJ7_fill_53178 {l : Launch} {E : Ev} {b : Nat} (o0 : Nat) (x1 : Int32) (ho0 : 100 ≤ kd o0) (σ : Mem) (r : Mem) (h : fJ7_fill_53178 o0 x1 σ = some r) : Met l yJ7_fill_53178 (tw yJ7_fill_53178 cJ7_fill_53178 4 none) { frames := 0, cells := 0, slots := 0, locals := 0 } (va_Pc [.ref (b + o0), .int x1] (Pr l E (LC E b) σ)) (Qz E (LC E b) none r) 0 0 (La (LC E b)) := by
  refine ct_of (by decide) (Nat.le_of_ble_eq_true rfl) ?_
  intro p e s m below meth c C hW hS ls hl
  have hx0 := C.1
  have hb := C.2.1
  have hl : lv_has ls 4 [(0, .ref (b + o0)), (1, .int x1)] := hl
  unfold fJ7_fill_53178 at h
  refine lv_iconst (v := (0 : Int32)) hx0 hb dJ7_fill_53178_0 (by decide) ?_
  refine lv_istore_n (lv' := [(2, .int (0 : Int32)), (0, .ref (b + o0)), (1, .int x1)]) hx0 hb dJ7_fill_53178_1 rfl hl (by decide) rfl (fun ls hl => ?_)
  refine lv_aload_n hx0 hb dJ7_fill_53178_2 rfl (lv_at hl 1 rfl) ?_
  refine alA (k := o0) C hW ho0 dJ7_fill_53178_3 ?_
  refine lv_istore_n (lv' := [(3, .int (Int32.ofNat (ln o0))), (2, .int (0 : Int32)), (0, .ref (b + o0)), (1, .int x1)]) hx0 hb dJ7_fill_53178_4 rfl hl (by decide) rfl (fun ls hl => ?_)
  obtain ⟨q5, h5, h⟩ := bnd h
  try dsimp only at h
  refine bJ7_fill_53178_l5 C o0 x1 (Int32.ofNat (ln o0)) ho0 (q := q5) ?_ FU (0 : Int32) σ h5 _ _ _ hW hS (lv_sub hl [2, 3, 1, 0] rfl)
  intro H locs ls hW hS hl
  cases h
  exact w_vret C hW hS dJ7_fill_53178_20
def fX3_fill (o0 : Nat) (x1 : Int32) (σ : Mem) : Option Mem :=
  (fJ7_fill_53178 (o0 + 1) x1 σ).bind fun v5 => some v5
set_option maxRecDepth 100000 in
set_option maxHeartbeats 4000000 in
theorem mX3_fill {l : Launch} {E : Ev} {b : Nat} (o0 : Nat) (x1 : Int32) (ho0 : kd o0 = 3) (σ : Mem) (r : Mem) (h : fX3_fill o0 x1 σ = some r) : Met l yX3_fill (tw yX3_fill cX3_fill 2 none) { frames := 1, cells := 0, slots := 0, locals := 23 } (va_Pc [.ref (b + o0), .int x1] (Pr l E (LC E b) σ)) (Qz E (LC E b) none r) 0 0 (La (LC E b)) := by
  refine ct_of (by decide) (Nat.le_of_ble_eq_true rfl) ?_
  intro p e s m below meth c C hW hS ls hl
  have hx0 := C.1
  have hb := C.2.1
  have hl : lv_has ls 2 [(0, .ref (b + o0)), (1, .int x1)] := hl
  unfold fX3_fill at h
  refine lv_aload_n hx0 hb dX3_fill_0 rfl (lv_at hl 0 rfl) ?_
  refine gtX3_0 (k := o0) C hW ho0 flX3_7 dX3_fill_1 ?_
  refine lv_iload_n hx0 hb dX3_fill_4 rfl (lv_at hl 1 rfl) ?_
  obtain ⟨v5, h5, h⟩ := bnd h
  try dsimp only at h
  refine w_callS (L := (LC E b)) (As := [.ref (b + (o0 + 1)), .int x1]) (rest := []) C hW hS (mJ7_fill_53178 (o0 + 1) x1 (chX3_0 ho0) σ v5 h5) cwJ7_fill_53178 csJ7_fill_53178 mlX3_13 ⟨by decide, by decide⟩ rfl hl.1 (Nat.le_of_ble_eq_true rfl) ⟨by decide, by decide⟩ dX3_fill_5 rfl (fun H locs hW hS => ?_)
  cases h
  exact w_vret C hW hS dX3_fill_8
def fX3_copyFrom (o0 : Nat) (o1 : Nat) (σ : Mem) : Option Mem :=
  if (if (Int32.ofNat (ln (o1 + 1))) < (Int32.ofNat (ln (o0 + 1))) then (Int32.ofNat (ln (o1 + 1))) else (Int32.ofNat (ln (o0 + 1)))) < 0 ∨ ln (o1 + 1) < (if (Int32.ofNat (ln (o1 + 1))) < (Int32.ofNat (ln (o0 + 1))) then (Int32.ofNat (ln (o1 + 1))) else (Int32.ofNat (ln (o0 + 1)))).toNatClampNeg ∨ ln (o0 + 1) < (if (Int32.ofNat (ln (o1 + 1))) < (Int32.ofNat (ln (o0 + 1))) then (Int32.ofNat (ln (o1 + 1))) else (Int32.ofNat (ln (o0 + 1)))).toNatClampNeg then none else some (cpy σ (o0 + 1) (o1 + 1) (if (Int32.ofNat (ln (o1 + 1))) < (Int32.ofNat (ln (o0 + 1))) then (Int32.ofNat (ln (o1 + 1))) else (Int32.ofNat (ln (o0 + 1)))).toNatClampNeg)
set_option maxRecDepth 100000 in
set_option maxHeartbeats 4000000 in
theorem mX3_copyFrom {l : Launch} {E : Ev} {b : Nat} (o0 : Nat) (o1 : Nat) (ho0 : kd o0 = 3) (ho1 : kd o1 = 3) (σ : Mem) (r : Mem) (h : fX3_copyFrom o0 o1 σ = some r) : Met l yX3_copyFrom (tw yX3_copyFrom cX3_copyFrom 3 none) { frames := 1, cells := 0, slots := 0, locals := 40 } (va_Pc [.ref (b + o0), .ref (b + o1)] (Pr l E (LC E b) σ)) (Qz E (LC E b) none r) 0 0 (La (LC E b)) := by
  refine ct_of (by decide) (Nat.le_of_ble_eq_true rfl) ?_
  intro p e s m below meth c C hW hS ls hl
  have hx0 := C.1
  have hb := C.2.1
  have hl : lv_has ls 3 [(0, .ref (b + o0)), (1, .ref (b + o1))] := hl
  unfold fX3_copyFrom at h
  refine lv_aload_n hx0 hb dX3_copyFrom_0 rfl (lv_at hl 0 rfl) ?_
  refine gtX3_0 (k := o0) C hW ho0 flX3_7 dX3_copyFrom_1 ?_
  refine alA (k := o0 + 1) C hW (chX3_0 ho0) dX3_copyFrom_4 ?_
  refine lv_aload_n hx0 hb dX3_copyFrom_5 rfl (lv_at hl 1 rfl) ?_
  refine gtX3_0 (k := o1) C hW ho1 flX3_7 dX3_copyFrom_6 ?_
  refine alA (k := o1 + 1) C hW (chX3_0 ho1) dX3_copyFrom_9 ?_
  refine w_mmin C hl.1 mlX3_19 ⟨by decide, Nat.le_of_ble_eq_true rfl⟩ ⟨by decide, by decide⟩ dX3_copyFrom_10 ?_
  refine lv_istore_n (lv' := [(2, .int (if (Int32.ofNat (ln (o1 + 1))) < (Int32.ofNat (ln (o0 + 1))) then (Int32.ofNat (ln (o1 + 1))) else (Int32.ofNat (ln (o0 + 1))))), (0, .ref (b + o0)), (1, .ref (b + o1))]) hx0 hb dX3_copyFrom_13 rfl hl (by decide) rfl (fun ls hl => ?_)
  refine lv_aload_n hx0 hb dX3_copyFrom_14 rfl (lv_at hl 2 rfl) ?_
  refine gtX3_0 (k := o1) C hW ho1 flX3_7 dX3_copyFrom_15 ?_
  refine lv_iconst (v := (0 : Int32)) hx0 hb dX3_copyFrom_18 (by decide) ?_
  refine lv_aload_n hx0 hb dX3_copyFrom_19 rfl (lv_at hl 1 rfl) ?_
  refine gtX3_0 (k := o0) C hW ho0 flX3_7 dX3_copyFrom_20 ?_
  refine lv_iconst (v := (0 : Int32)) hx0 hb dX3_copyFrom_23 (by decide) ?_
  refine lv_iload_n hx0 hb dX3_copyFrom_24 rfl (lv_at hl 0 rfl) ?_
  by_cases z25 : (if (Int32.ofNat (ln (o1 + 1))) < (Int32.ofNat (ln (o0 + 1))) then (Int32.ofNat (ln (o1 + 1))) else (Int32.ofNat (ln (o0 + 1)))) < 0 ∨ ln (o1 + 1) < (if (Int32.ofNat (ln (o1 + 1))) < (Int32.ofNat (ln (o0 + 1))) then (Int32.ofNat (ln (o1 + 1))) else (Int32.ofNat (ln (o0 + 1)))).toNatClampNeg ∨ ln (o0 + 1) < (if (Int32.ofNat (ln (o1 + 1))) < (Int32.ofNat (ln (o0 + 1))) then (Int32.ofNat (ln (o1 + 1))) else (Int32.ofNat (ln (o0 + 1)))).toNatClampNeg
  · rw [if_pos z25] at h; cases h
  rw [if_neg z25] at h
  refine cpA (k := o1 + 1) (d := o0 + 1) C hl.1 hW hS (chX3_0 ho1) (chX3_0 ho0) mlX3_25 z25 ⟨by decide, Nat.le_of_ble_eq_true rfl⟩ dX3_copyFrom_25 (fun H locs hW hS => ?_)
  cases h
  exact w_vret C hW hS dX3_copyFrom_28
