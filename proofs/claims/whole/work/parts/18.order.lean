/-! PageArchive$ReadingOrder, by program out of the bytecode -/
def fX2_add (o0 : Nat) (x1 : Int32) (x2 : Int32) (x3 : Int32) (x4 : Int32) (σ : Mem) : Option Mem :=
  (fX3_put (o0 + 1) (σ o0 6) x1 σ).bind fun v9 => (fX3_put (o0 + 3) (v9 o0 6) x2 v9).bind fun v21 => (fX3_put (o0 + 5) (v21 o0 6) x3 v21).bind fun v33 => (fX3_put (o0 + 7) (v33 o0 6) x4 v33).bind fun v46 => some (up v46 o0 6 ((v46 o0 6) + (1 : Int32)))
set_option maxRecDepth 100000 in
set_option maxHeartbeats 4000000 in
theorem mX2_add {l : Launch} {E : Ev} {b : Nat} (o0 : Nat) (x1 : Int32) (x2 : Int32) (x3 : Int32) (x4 : Int32) (ho0 : kd o0 = 2) (σ : Mem) (r : Mem) (h : fX2_add o0 x1 x2 x3 x4 σ = some r) : Met l yX2_add (tw yX2_add cX2_add 5 none) { frames := 1, cells := 0, slots := 0, locals := 22 } (va_Pc [.ref (b + o0), .int x1, .int x2, .int x3, .int x4] (Pr l E (LC E b) σ)) (Qz E (LC E b) none r) 0 0 (La (LC E b)) := by
  refine ct_of (by decide) (Nat.le_of_ble_eq_true rfl) ?_
  intro p e s m below meth c C hW hS ls hl
  have hx0 := C.1
  have hb := C.2.1
  have hl : lv_has ls 5 [(0, .ref (b + o0)), (1, .int x1), (2, .int x2), (3, .int x3), (4, .int x4)] := hl
  unfold fX2_add at h
  refine lv_aload_n hx0 hb dX2_add_0 rfl (lv_at hl 0 rfl) ?_
  refine gtX2_0 (k := o0) C hW ho0 flX2_14 dX2_add_1 ?_
  refine lv_aload_n hx0 hb dX2_add_4 rfl (lv_at hl 0 rfl) ?_
  refine gtX2_6 (k := o0) C hW ho0 flX2_35 dX2_add_5 ?_
  refine lv_iload_n hx0 hb dX2_add_8 rfl (lv_at hl 1 rfl) ?_
  obtain ⟨v9, h9, h⟩ := bnd h
  try dsimp only at h
  refine w_callV (L := (LC E b)) (k := o0 + 1) (As := [.int (σ o0 6), .int x1]) (rest := []) C hW hS (kdlt (chX2_0 ho0) (by decide)) (ccX3 (chX2_0 ho0)) kcX3 (mX3_put (o0 + 1) (σ o0 6) x1 (chX2_0 ho0) σ v9 h9) cwX3_put cvX3_put rfl mlX2_56 ⟨by decide, by decide⟩ rfl hl.1 (Nat.le_of_ble_eq_true rfl) ⟨by decide, by decide⟩ dX2_add_9 rfl (fun H locs hW hS => ?_)
  refine lv_aload_n hx0 hb dX2_add_12 rfl (lv_at hl 0 rfl) ?_
  refine gtX2_1 (k := o0) C hW ho0 flX2_20 dX2_add_13 ?_
  refine lv_aload_n hx0 hb dX2_add_16 rfl (lv_at hl 0 rfl) ?_
  refine gtX2_6 (k := o0) C hW ho0 flX2_35 dX2_add_17 ?_
  refine lv_iload_n hx0 hb dX2_add_20 rfl (lv_at hl 2 rfl) ?_
  obtain ⟨v21, h21, h⟩ := bnd h
  try dsimp only at h
  refine w_callV (L := (LC E b)) (k := o0 + 3) (As := [.int (v9 o0 6), .int x2]) (rest := []) C hW hS (kdlt (chX2_1 ho0) (by decide)) (ccX3 (chX2_1 ho0)) kcX3 (mX3_put (o0 + 3) (v9 o0 6) x2 (chX2_1 ho0) v9 v21 h21) cwX3_put cvX3_put rfl mlX2_56 ⟨by decide, by decide⟩ rfl hl.1 (Nat.le_of_ble_eq_true rfl) ⟨by decide, by decide⟩ dX2_add_21 rfl (fun H locs hW hS => ?_)
  refine lv_aload_n hx0 hb dX2_add_24 rfl (lv_at hl 0 rfl) ?_
  refine gtX2_2 (k := o0) C hW ho0 flX2_23 dX2_add_25 ?_
  refine lv_aload_n hx0 hb dX2_add_28 rfl (lv_at hl 0 rfl) ?_
  refine gtX2_6 (k := o0) C hW ho0 flX2_35 dX2_add_29 ?_
  refine lv_iload_n hx0 hb dX2_add_32 rfl (lv_at hl 3 rfl) ?_
  obtain ⟨v33, h33, h⟩ := bnd h
  try dsimp only at h
  refine w_callV (L := (LC E b)) (k := o0 + 5) (As := [.int (v21 o0 6), .int x3]) (rest := []) C hW hS (kdlt (chX2_2 ho0) (by decide)) (ccX3 (chX2_2 ho0)) kcX3 (mX3_put (o0 + 5) (v21 o0 6) x3 (chX2_2 ho0) v21 v33 h33) cwX3_put cvX3_put rfl mlX2_56 ⟨by decide, by decide⟩ rfl hl.1 (Nat.le_of_ble_eq_true rfl) ⟨by decide, by decide⟩ dX2_add_33 rfl (fun H locs hW hS => ?_)
  refine lv_aload_n hx0 hb dX2_add_36 rfl (lv_at hl 0 rfl) ?_
  refine gtX2_3 (k := o0) C hW ho0 flX2_26 dX2_add_37 ?_
  refine lv_aload_n hx0 hb dX2_add_40 rfl (lv_at hl 0 rfl) ?_
  refine gtX2_6 (k := o0) C hW ho0 flX2_35 dX2_add_41 ?_
  refine lv_iload hx0 hb dX2_add_44 (lv_at hl 4 rfl) ?_
  obtain ⟨v46, h46, h⟩ := bnd h
  try dsimp only at h
  refine w_callV (L := (LC E b)) (k := o0 + 7) (As := [.int (v33 o0 6), .int x4]) (rest := []) C hW hS (kdlt (chX2_3 ho0) (by decide)) (ccX3 (chX2_3 ho0)) kcX3 (mX3_put (o0 + 7) (v33 o0 6) x4 (chX2_3 ho0) v33 v46 h46) cwX3_put cvX3_put rfl mlX2_56 ⟨by decide, by decide⟩ rfl hl.1 (Nat.le_of_ble_eq_true rfl) ⟨by decide, by decide⟩ dX2_add_46 rfl (fun H locs hW hS => ?_)
  refine lv_aload_n hx0 hb dX2_add_49 rfl (lv_at hl 0 rfl) ?_
  refine lv_dup hx0 hb dX2_add_50 rfl ?_
  refine gtX2_6 (k := o0) C hW ho0 flX2_35 dX2_add_51 ?_
  refine lv_iconst (v := (1 : Int32)) hx0 hb dX2_add_54 (by decide) ?_
  refine lv_iadd hx0 hb dX2_add_55 ?_
  refine ptX2_6 (k := o0) C hW hS ho0 flX2_35 dX2_add_56 (fun H locs hW hS => ?_)
  cases h
  exact w_vret C hW hS dX2_add_59
def fX2_addSide_l50 (o0 : Nat) (o1 : Nat) (x2 : Int32) (x3 : Int32) (x4 : Int32) : Nat → Int32 → Mem → Option (Int32 × Mem)
  | 0, _, _ => none
  | n + 1, x5, σ => (fX10_sidesOfSlip o1 x4 σ).bind fun v55 => if v55 ≤ x5 then (some (x5, σ)) else ((fX3_put (o0 + 11) (((2 : Int32) * x4) + x5) (σ o0 6) σ).bind fun v76 => (fX2_add o0 x2 x3 x4 x5 v76).bind fun v86 => fX2_addSide_l50 o0 o1 x2 x3 x4 n (x5 + (1 : Int32)) v86)
set_option maxRecDepth 100000 in
set_option maxHeartbeats 4000000 in
theorem bX2_addSide_l50 {p : Program} {l : Launch} {e : Env} {s : State} {m : MethodId} {args : Array Value} {below : List Frame} {meth : Method} {c : Code} {E : Ev} {b : Nat} (C : Cx p l s m args meth c E cX2_addSide 6 RX2 none) (o0 : Nat) (o1 : Nat) (x2 : Int32) (x3 : Int32) (x4 : Int32) (ho0 : kd o0 = 2) (ho1 : kd o1 = 10) {Qf : State → Prop} {q : Int32 × Mem} (hx : ∀ H locs ls, Wd E (LC E b) q.2 H → va_S (La (LC E b)) s.heap H locs → lv_has ls 6 [(0, .ref (b + o0)), (1, .ref (b + o1)), (2, .int x2), (3, .int x3), (4, .int x4), (5, .int q.1)] → W p l e { frames := 2, cells := 0, slots := 0, locals := 46 } s m args below meth c H locs 0 0 Qf (F0 m 95 ls [])) : ∀ (n : Nat) (x5 : Int32) (σ : Mem), fX2_addSide_l50 o0 o1 x2 x3 x4 n x5 σ = some q → ∀ (H : Heap) (locs : List Loc) (ls : Array Slot), Wd E (LC E b) σ H → va_S (La (LC E b)) s.heap H locs → lv_has ls 6 [(0, .ref (b + o0)), (1, .ref (b + o1)), (2, .int x2), (3, .int x3), (4, .int x4), (5, .int x5)] → W p l e { frames := 2, cells := 0, slots := 0, locals := 46 } s m args below meth c H locs 0 0 Qf (F0 m 50 ls []) := by
  have hx0 := C.1
  have hb := C.2.1
  intro n
  induction n with
  | zero => intro x5 σ h; simp [fX2_addSide_l50] at h
  | succ n ih =>
    intro x5 σ h H locs ls hW hS hl
    unfold fX2_addSide_l50 at h
    refine lv_iload hx0 hb dX2_addSide_50 (lv_at hl 5 rfl) ?_
    refine lv_aload_n hx0 hb dX2_addSide_52 rfl (lv_at hl 1 rfl) ?_
    refine lv_iload hx0 hb dX2_addSide_53 (lv_at hl 4 rfl) ?_
    obtain ⟨v55, h55, h⟩ := bnd h
    try dsimp only at h
    refine w_callV (L := (LC E b)) (k := o1) (As := [.int x4]) (rest := [.int x5]) C hW hS (kdlt ho1 (by decide)) (ccX10 ho1) kcX10 (mX10_sidesOfSlip o1 x4 ho1 σ v55 h55) cwX10_sidesOfSlip cvX10_sidesOfSlip rfl mlX2_71 ⟨by decide, by decide⟩ rfl hl.1 (Nat.le_of_ble_eq_true rfl) ⟨by decide, by decide⟩ dX2_addSide_55 rfl (fun H locs hW hS => ?_)
    refine lv_icmp_ge (tgt := 95) hx0 hb dX2_addSide_58 (by decide) (fun c58 => ?_) (fun c58 => ?_)
    · rw [if_pos c58] at h
      cases h
      exact hx _ _ _ hW hS (lv_sub hl [0, 1, 2, 3, 4, 5] rfl)
    · rw [if_neg c58] at h
      refine lv_aload_n hx0 hb dX2_addSide_61 rfl (lv_at hl 0 rfl) ?_
      refine gtX2_5 (k := o0) C hW ho0 flX2_32 dX2_addSide_62 ?_
      refine lv_iconst (v := (2 : Int32)) hx0 hb dX2_addSide_65 (by decide) ?_
      refine lv_iload hx0 hb dX2_addSide_66 (lv_at hl 4 rfl) ?_
      refine lv_imul hx0 hb dX2_addSide_68 ?_
      refine lv_iload hx0 hb dX2_addSide_69 (lv_at hl 5 rfl) ?_
      refine lv_iadd hx0 hb dX2_addSide_71 ?_
      refine lv_aload_n hx0 hb dX2_addSide_72 rfl (lv_at hl 0 rfl) ?_
      refine gtX2_6 (k := o0) C hW ho0 flX2_35 dX2_addSide_73 ?_
      obtain ⟨v76, h76, h⟩ := bnd h
      try dsimp only at h
      refine w_callV (L := (LC E b)) (k := o0 + 11) (As := [.int (((2 : Int32) * x4) + x5), .int (σ o0 6)]) (rest := []) C hW hS (kdlt (chX2_5 ho0) (by decide)) (ccX3 (chX2_5 ho0)) kcX3 (mX3_put (o0 + 11) (((2 : Int32) * x4) + x5) (σ o0 6) (chX2_5 ho0) σ v76 h76) cwX3_put cvX3_put rfl mlX2_56 ⟨by decide, by decide⟩ rfl hl.1 (Nat.le_of_ble_eq_true rfl) ⟨by decide, by decide⟩ dX2_addSide_76 rfl (fun H locs hW hS => ?_)
      refine lv_aload_n hx0 hb dX2_addSide_79 rfl (lv_at hl 0 rfl) ?_
      refine lv_iload_n hx0 hb dX2_addSide_80 rfl (lv_at hl 2 rfl) ?_
      refine lv_iload_n hx0 hb dX2_addSide_81 rfl (lv_at hl 3 rfl) ?_
      refine lv_iload hx0 hb dX2_addSide_82 (lv_at hl 4 rfl) ?_
      refine lv_iload hx0 hb dX2_addSide_84 (lv_at hl 5 rfl) ?_
      obtain ⟨v86, h86, h⟩ := bnd h
      try dsimp only at h
      refine w_callV (L := (LC E b)) (k := o0) (As := [.int x2, .int x3, .int x4, .int x5]) (rest := []) C hW hS (kdlt ho0 (by decide)) (ccX2 ho0) kcX2 (mX2_add o0 x2 x3 x4 x5 ho0 v76 v86 h86) cwX2_add cvX2_add rfl mlX2_60 ⟨by decide, by decide⟩ rfl hl.1 (Nat.le_of_ble_eq_true rfl) ⟨by decide, by decide⟩ dX2_addSide_86 rfl (fun H locs hW hS => ?_)
      refine lv_iinc (v := x5 + (1 : Int32)) (lv' := [(5, .int (x5 + (1 : Int32))), (0, .ref (b + o0)), (1, .ref (b + o1)), (2, .int x2), (3, .int x3), (4, .int x4)]) hx0 hb dX2_addSide_89 hl (k := 5) rfl rfl (by decide) rfl (fun ls hl => ?_)
      refine lv_goto (tgt := 50) hx0 hb dX2_addSide_92 (by decide) ?_
      exact ih (x5 + (1 : Int32)) v86 h _ _ _ hW hS (lv_sub hl [1, 2, 3, 4, 5, 0] rfl)
def fX2_addSide_l27 (o0 : Nat) (o1 : Nat) (x2 : Int32) (x3 : Int32) : Nat → Int32 → Mem → Option (Int32 × Mem)
  | 0, _, _ => none
  | n + 1, x4, σ => (fX10_slipCount o1 σ).bind fun v30 => if v30 ≤ x4 then (some (x4, σ)) else ((fX10_isSlipOn o1 x4 x2 x3 σ).bind fun v41 => if v41 = 0 then (fX2_addSide_l27 o0 o1 x2 x3 n (x4 + (1 : Int32)) σ) else ((fX2_addSide_l50 o0 o1 x2 x3 x4 FU (0 : Int32) σ).bind fun q50 => fX2_addSide_l27 o0 o1 x2 x3 n (x4 + (1 : Int32)) q50.2))
set_option maxRecDepth 100000 in
set_option maxHeartbeats 4000000 in
theorem bX2_addSide_l27 {p : Program} {l : Launch} {e : Env} {s : State} {m : MethodId} {args : Array Value} {below : List Frame} {meth : Method} {c : Code} {E : Ev} {b : Nat} (C : Cx p l s m args meth c E cX2_addSide 6 RX2 none) (o0 : Nat) (o1 : Nat) (x2 : Int32) (x3 : Int32) (ho0 : kd o0 = 2) (ho1 : kd o1 = 10) {Qf : State → Prop} {q : Int32 × Mem} (hx : ∀ H locs ls, Wd E (LC E b) q.2 H → va_S (La (LC E b)) s.heap H locs → lv_has ls 6 [(0, .ref (b + o0)), (1, .ref (b + o1)), (2, .int x2), (3, .int x3), (4, .int q.1)] → W p l e { frames := 2, cells := 0, slots := 0, locals := 46 } s m args below meth c H locs 0 0 Qf (F0 m 101 ls [])) : ∀ (n : Nat) (x4 : Int32) (σ : Mem), fX2_addSide_l27 o0 o1 x2 x3 n x4 σ = some q → ∀ (H : Heap) (locs : List Loc) (ls : Array Slot), Wd E (LC E b) σ H → va_S (La (LC E b)) s.heap H locs → lv_has ls 6 [(0, .ref (b + o0)), (1, .ref (b + o1)), (2, .int x2), (3, .int x3), (4, .int x4)] → W p l e { frames := 2, cells := 0, slots := 0, locals := 46 } s m args below meth c H locs 0 0 Qf (F0 m 27 ls []) := by
  have hx0 := C.1
  have hb := C.2.1
  intro n
  induction n with
  | zero => intro x4 σ h; simp [fX2_addSide_l27] at h
  | succ n ih =>
    intro x4 σ h H locs ls hW hS hl
    unfold fX2_addSide_l27 at h
    refine lv_iload hx0 hb dX2_addSide_27 (lv_at hl 4 rfl) ?_
    refine lv_aload_n hx0 hb dX2_addSide_29 rfl (lv_at hl 1 rfl) ?_
    obtain ⟨v30, h30, h⟩ := bnd h
    try dsimp only at h
    refine w_callV (L := (LC E b)) (k := o1) (As := []) (rest := [.int x4]) C hW hS (kdlt ho1 (by decide)) (ccX10 ho1) kcX10 (mX10_slipCount o1 ho1 σ v30 h30) cwX10_slipCount cvX10_slipCount rfl mlX2_64 ⟨by decide, by decide⟩ rfl hl.1 (Nat.le_of_ble_eq_true rfl) ⟨by decide, by decide⟩ dX2_addSide_30 rfl (fun H locs hW hS => ?_)
    refine lv_icmp_ge (tgt := 101) hx0 hb dX2_addSide_33 (by decide) (fun c33 => ?_) (fun c33 => ?_)
    · rw [if_pos c33] at h
      cases h
      exact hx _ _ _ hW hS (lv_sub hl [0, 1, 2, 3, 4] rfl)
    · rw [if_neg c33] at h
      refine lv_aload_n hx0 hb dX2_addSide_36 rfl (lv_at hl 1 rfl) ?_
      refine lv_iload hx0 hb dX2_addSide_37 (lv_at hl 4 rfl) ?_
      refine lv_iload_n hx0 hb dX2_addSide_39 rfl (lv_at hl 2 rfl) ?_
      refine lv_iload_n hx0 hb dX2_addSide_40 rfl (lv_at hl 3 rfl) ?_
      obtain ⟨v41, h41, h⟩ := bnd h
      try dsimp only at h
      refine w_callV (L := (LC E b)) (k := o1) (As := [.int x4, .int x2, .int x3]) (rest := []) C hW hS (kdlt ho1 (by decide)) (ccX10 ho1) kcX10 (mX10_isSlipOn o1 x4 x2 x3 ho1 σ v41 h41) cwX10_isSlipOn cvX10_isSlipOn rfl mlX2_67 ⟨by decide, by decide⟩ rfl hl.1 (Nat.le_of_ble_eq_true rfl) ⟨by decide, by decide⟩ dX2_addSide_41 rfl (fun H locs hW hS => ?_)
      refine lv_if_eq (tgt := 95) hx0 hb dX2_addSide_44 (by decide) (fun c44 => ?_) (fun c44 => ?_)
      · rw [if_pos c44] at h
        refine lv_iinc (v := x4 + (1 : Int32)) (lv' := [(4, .int (x4 + (1 : Int32))), (0, .ref (b + o0)), (1, .ref (b + o1)), (2, .int x2), (3, .int x3)]) hx0 hb dX2_addSide_95 hl (k := 4) rfl rfl (by decide) rfl (fun ls hl => ?_)
        refine lv_goto (tgt := 27) hx0 hb dX2_addSide_98 (by decide) ?_
        exact ih (x4 + (1 : Int32)) σ h _ _ _ hW hS (lv_sub hl [1, 2, 3, 4, 0] rfl)
      · rw [if_neg c44] at h
        refine lv_iconst (v := (0 : Int32)) hx0 hb dX2_addSide_47 (by decide) ?_
        refine lv_istore (lv' := [(5, .int (0 : Int32)), (0, .ref (b + o0)), (1, .ref (b + o1)), (2, .int x2), (3, .int x3), (4, .int x4)]) hx0 hb dX2_addSide_48 hl (by decide) rfl (fun ls hl => ?_)
        obtain ⟨q50, h50, h⟩ := bnd h
        try dsimp only at h
        refine bX2_addSide_l50 C o0 o1 x2 x3 x4 ho0 ho1 (q := q50) ?_ FU (0 : Int32) σ h50 _ _ _ hW hS (lv_sub hl [1, 2, 3, 4, 5, 0] rfl)
        intro H locs ls hW hS hl
        refine lv_iinc (v := x4 + (1 : Int32)) (lv' := [(4, .int (x4 + (1 : Int32))), (0, .ref (b + o0)), (1, .ref (b + o1)), (2, .int x2), (3, .int x3), (5, .int q50.1)]) hx0 hb dX2_addSide_95 hl (k := 4) rfl rfl (by decide) rfl (fun ls hl => ?_)
        refine lv_goto (tgt := 27) hx0 hb dX2_addSide_98 (by decide) ?_
        exact ih (x4 + (1 : Int32)) q50.2 h _ _ _ hW hS (lv_sub hl [1, 2, 3, 4, 0] rfl)
def fX2_addSide (o0 : Nat) (o1 : Nat) (x2 : Int32) (x3 : Int32) (σ : Mem) : Option Mem :=
  (fX3_put (o0 + 9) (((2 : Int32) * x2) + x3) (σ o0 6) σ).bind fun v13 => (fX2_add o0 x2 x3 (-1 : Int32) (-1 : Int32) v13).bind fun v21 => (fX2_addSide_l27 o0 o1 x2 x3 FU (0 : Int32) v21).bind fun q27 => some q27.2
set_option maxRecDepth 100000 in
set_option maxHeartbeats 4000000 in
theorem mX2_addSide {l : Launch} {E : Ev} {b : Nat} (o0 : Nat) (o1 : Nat) (x2 : Int32) (x3 : Int32) (ho0 : kd o0 = 2) (ho1 : kd o1 = 10) (σ : Mem) (r : Mem) (h : fX2_addSide o0 o1 x2 x3 σ = some r) : Met l yX2_addSide (tw yX2_addSide cX2_addSide 6 none) { frames := 2, cells := 0, slots := 0, locals := 46 } (va_Pc [.ref (b + o0), .ref (b + o1), .int x2, .int x3] (Pr l E (LC E b) σ)) (Qz E (LC E b) none r) 0 0 (La (LC E b)) := by
  refine ct_of (by decide) (Nat.le_of_ble_eq_true rfl) ?_
  intro p e s m below meth c C hW hS ls hl
  have hx0 := C.1
  have hb := C.2.1
  have hl : lv_has ls 6 [(0, .ref (b + o0)), (1, .ref (b + o1)), (2, .int x2), (3, .int x3)] := hl
  unfold fX2_addSide at h
  refine lv_aload_n hx0 hb dX2_addSide_0 rfl (lv_at hl 0 rfl) ?_
  refine gtX2_4 (k := o0) C hW ho0 flX2_29 dX2_addSide_1 ?_
  refine lv_iconst (v := (2 : Int32)) hx0 hb dX2_addSide_4 (by decide) ?_
  refine lv_iload_n hx0 hb dX2_addSide_5 rfl (lv_at hl 2 rfl) ?_
  refine lv_imul hx0 hb dX2_addSide_6 ?_
  refine lv_iload_n hx0 hb dX2_addSide_7 rfl (lv_at hl 3 rfl) ?_
  refine lv_iadd hx0 hb dX2_addSide_8 ?_
  refine lv_aload_n hx0 hb dX2_addSide_9 rfl (lv_at hl 0 rfl) ?_
  refine gtX2_6 (k := o0) C hW ho0 flX2_35 dX2_addSide_10 ?_
  obtain ⟨v13, h13, h⟩ := bnd h
  try dsimp only at h
  refine w_callV (L := (LC E b)) (k := o0 + 9) (As := [.int (((2 : Int32) * x2) + x3), .int (σ o0 6)]) (rest := []) C hW hS (kdlt (chX2_4 ho0) (by decide)) (ccX3 (chX2_4 ho0)) kcX3 (mX3_put (o0 + 9) (((2 : Int32) * x2) + x3) (σ o0 6) (chX2_4 ho0) σ v13 h13) cwX3_put cvX3_put rfl mlX2_56 ⟨by decide, by decide⟩ rfl hl.1 (Nat.le_of_ble_eq_true rfl) ⟨by decide, by decide⟩ dX2_addSide_13 rfl (fun H locs hW hS => ?_)
  refine lv_aload_n hx0 hb dX2_addSide_16 rfl (lv_at hl 0 rfl) ?_
  refine lv_iload_n hx0 hb dX2_addSide_17 rfl (lv_at hl 2 rfl) ?_
  refine lv_iload_n hx0 hb dX2_addSide_18 rfl (lv_at hl 3 rfl) ?_
  refine lv_iconst (v := (-1 : Int32)) hx0 hb dX2_addSide_19 (by decide) ?_
  refine lv_iconst (v := (-1 : Int32)) hx0 hb dX2_addSide_20 (by decide) ?_
  obtain ⟨v21, h21, h⟩ := bnd h
  try dsimp only at h
  refine w_callV (L := (LC E b)) (k := o0) (As := [.int x2, .int x3, .int (-1 : Int32), .int (-1 : Int32)]) (rest := []) C hW hS (kdlt ho0 (by decide)) (ccX2 ho0) kcX2 (mX2_add o0 x2 x3 (-1 : Int32) (-1 : Int32) ho0 v13 v21 h21) cwX2_add cvX2_add rfl mlX2_60 ⟨by decide, by decide⟩ rfl hl.1 (Nat.le_of_ble_eq_true rfl) ⟨by decide, by decide⟩ dX2_addSide_21 rfl (fun H locs hW hS => ?_)
  refine lv_iconst (v := (0 : Int32)) hx0 hb dX2_addSide_24 (by decide) ?_
  refine lv_istore (lv' := [(4, .int (0 : Int32)), (0, .ref (b + o0)), (1, .ref (b + o1)), (2, .int x2), (3, .int x3)]) hx0 hb dX2_addSide_25 hl (by decide) rfl (fun ls hl => ?_)
  obtain ⟨q27, h27, h⟩ := bnd h
  try dsimp only at h
  refine bX2_addSide_l27 C o0 o1 x2 x3 ho0 ho1 (q := q27) ?_ FU (0 : Int32) v21 h27 _ _ _ hW hS (lv_sub hl [1, 2, 3, 4, 0] rfl)
  intro H locs ls hW hS hl
  cases h
  exact w_vret C hW hS dX2_addSide_101
def fX2_follow_l23 (o0 : Nat) (o1 : Nat) : Nat → Int32 → Mem → Option (Int32 × Mem)
  | 0, _, _ => none
  | n + 1, x2, σ => (fX10_leafCount o1 σ).bind fun v25 => if v25 ≤ x2 then (some (x2, σ)) else ((fX10_isPresent o1 x2 σ).bind fun v33 => if v33 = 0 then (fX2_follow_l23 o0 o1 n (x2 + (1 : Int32)) σ) else ((fX2_addSide o0 o1 x2 (0 : Int32) σ).bind fun v43 => (fX2_addSide o0 o1 x2 (1 : Int32) v43).bind fun v50 => fX2_follow_l23 o0 o1 n (x2 + (1 : Int32)) v50))
set_option maxRecDepth 100000 in
set_option maxHeartbeats 4000000 in
theorem bX2_follow_l23 {p : Program} {l : Launch} {e : Env} {s : State} {m : MethodId} {args : Array Value} {below : List Frame} {meth : Method} {c : Code} {E : Ev} {b : Nat} (C : Cx p l s m args meth c E cX2_follow 3 RX2 none) (o0 : Nat) (o1 : Nat) (ho0 : kd o0 = 2) (ho1 : kd o1 = 10) {Qf : State → Prop} {q : Int32 × Mem} (hx : ∀ H locs ls, Wd E (LC E b) q.2 H → va_S (La (LC E b)) s.heap H locs → lv_has ls 3 [(0, .ref (b + o0)), (1, .ref (b + o1)), (2, .int q.1)] → W p l e { frames := 3, cells := 0, slots := 0, locals := 71 } s m args below meth c H locs 0 0 Qf (F0 m 59 ls [])) : ∀ (n : Nat) (x2 : Int32) (σ : Mem), fX2_follow_l23 o0 o1 n x2 σ = some q → ∀ (H : Heap) (locs : List Loc) (ls : Array Slot), Wd E (LC E b) σ H → va_S (La (LC E b)) s.heap H locs → lv_has ls 3 [(0, .ref (b + o0)), (1, .ref (b + o1)), (2, .int x2)] → W p l e { frames := 3, cells := 0, slots := 0, locals := 71 } s m args below meth c H locs 0 0 Qf (F0 m 23 ls []) := by
  have hx0 := C.1
  have hb := C.2.1
  intro n
  induction n with
  | zero => intro x2 σ h; simp [fX2_follow_l23] at h
  | succ n ih =>
    intro x2 σ h H locs ls hW hS hl
    unfold fX2_follow_l23 at h
    refine lv_iload_n hx0 hb dX2_follow_23 rfl (lv_at hl 2 rfl) ?_
    refine lv_aload_n hx0 hb dX2_follow_24 rfl (lv_at hl 1 rfl) ?_
    obtain ⟨v25, h25, h⟩ := bnd h
    try dsimp only at h
    refine w_callV (L := (LC E b)) (k := o1) (As := []) (rest := [.int x2]) C hW hS (kdlt ho1 (by decide)) (ccX10 ho1) kcX10 (mX10_leafCount o1 ho1 σ v25 h25) cwX10_leafCount cvX10_leafCount rfl mlX2_42 ⟨by decide, by decide⟩ rfl hl.1 (Nat.le_of_ble_eq_true rfl) ⟨by decide, by decide⟩ dX2_follow_25 rfl (fun H locs hW hS => ?_)
    refine lv_icmp_ge (tgt := 59) hx0 hb dX2_follow_28 (by decide) (fun c28 => ?_) (fun c28 => ?_)
    · rw [if_pos c28] at h
      cases h
      exact hx _ _ _ hW hS (lv_sub hl [0, 1, 2] rfl)
    · rw [if_neg c28] at h
      refine lv_aload_n hx0 hb dX2_follow_31 rfl (lv_at hl 1 rfl) ?_
      refine lv_iload_n hx0 hb dX2_follow_32 rfl (lv_at hl 2 rfl) ?_
      obtain ⟨v33, h33, h⟩ := bnd h
      try dsimp only at h
      refine w_callV (L := (LC E b)) (k := o1) (As := [.int x2]) (rest := []) C hW hS (kdlt ho1 (by decide)) (ccX10 ho1) kcX10 (mX10_isPresent o1 x2 ho1 σ v33 h33) cwX10_isPresent cvX10_isPresent rfl mlX2_48 ⟨by decide, by decide⟩ rfl hl.1 (Nat.le_of_ble_eq_true rfl) ⟨by decide, by decide⟩ dX2_follow_33 rfl (fun H locs hW hS => ?_)
      refine lv_if_eq (tgt := 53) hx0 hb dX2_follow_36 (by decide) (fun c36 => ?_) (fun c36 => ?_)
      · rw [if_pos c36] at h
        refine lv_iinc (v := x2 + (1 : Int32)) (lv' := [(2, .int (x2 + (1 : Int32))), (0, .ref (b + o0)), (1, .ref (b + o1))]) hx0 hb dX2_follow_53 hl (k := 2) rfl rfl (by decide) rfl (fun ls hl => ?_)
        refine lv_goto (tgt := 23) hx0 hb dX2_follow_56 (by decide) ?_
        exact ih (x2 + (1 : Int32)) σ h _ _ _ hW hS (lv_sub hl [1, 2, 0] rfl)
      · rw [if_neg c36] at h
        refine lv_aload_n hx0 hb dX2_follow_39 rfl (lv_at hl 0 rfl) ?_
        refine lv_aload_n hx0 hb dX2_follow_40 rfl (lv_at hl 1 rfl) ?_
        refine lv_iload_n hx0 hb dX2_follow_41 rfl (lv_at hl 2 rfl) ?_
        refine lv_iconst (v := (0 : Int32)) hx0 hb dX2_follow_42 (by decide) ?_
        obtain ⟨v43, h43, h⟩ := bnd h
        try dsimp only at h
        refine w_callV (L := (LC E b)) (k := o0) (As := [.ref (b + o1), .int x2, .int (0 : Int32)]) (rest := []) C hW hS (kdlt ho0 (by decide)) (ccX2 ho0) kcX2 (mX2_addSide o0 o1 x2 (0 : Int32) ho0 ho1 σ v43 h43) cwX2_addSide cvX2_addSide rfl mlX2_52 ⟨by decide, by decide⟩ rfl hl.1 (Nat.le_of_ble_eq_true rfl) ⟨by decide, by decide⟩ dX2_follow_43 rfl (fun H locs hW hS => ?_)
        refine lv_aload_n hx0 hb dX2_follow_46 rfl (lv_at hl 0 rfl) ?_
        refine lv_aload_n hx0 hb dX2_follow_47 rfl (lv_at hl 1 rfl) ?_
        refine lv_iload_n hx0 hb dX2_follow_48 rfl (lv_at hl 2 rfl) ?_
        refine lv_iconst (v := (1 : Int32)) hx0 hb dX2_follow_49 (by decide) ?_
        obtain ⟨v50, h50, h⟩ := bnd h
        try dsimp only at h
        refine w_callV (L := (LC E b)) (k := o0) (As := [.ref (b + o1), .int x2, .int (1 : Int32)]) (rest := []) C hW hS (kdlt ho0 (by decide)) (ccX2 ho0) kcX2 (mX2_addSide o0 o1 x2 (1 : Int32) ho0 ho1 v43 v50 h50) cwX2_addSide cvX2_addSide rfl mlX2_52 ⟨by decide, by decide⟩ rfl hl.1 (Nat.le_of_ble_eq_true rfl) ⟨by decide, by decide⟩ dX2_follow_50 rfl (fun H locs hW hS => ?_)
        refine lv_iinc (v := x2 + (1 : Int32)) (lv' := [(2, .int (x2 + (1 : Int32))), (0, .ref (b + o0)), (1, .ref (b + o1))]) hx0 hb dX2_follow_53 hl (k := 2) rfl rfl (by decide) rfl (fun ls hl => ?_)
        refine lv_goto (tgt := 23) hx0 hb dX2_follow_56 (by decide) ?_
        exact ih (x2 + (1 : Int32)) v50 h _ _ _ hW hS (lv_sub hl [1, 2, 0] rfl)
def fX2_follow (o0 : Nat) (o1 : Nat) (σ : Mem) : Option Mem :=
  (fX3_fill (o0 + 9) (-1 : Int32) (up σ o0 6 (0 : Int32))).bind fun v10 => (fX3_fill (o0 + 11) (-1 : Int32) v10).bind fun v18 => (fX2_follow_l23 o0 o1 FU (0 : Int32) v18).bind fun q23 => some q23.2
set_option maxRecDepth 100000 in
set_option maxHeartbeats 4000000 in
theorem mX2_follow {l : Launch} {E : Ev} {b : Nat} (o0 : Nat) (o1 : Nat) (ho0 : kd o0 = 2) (ho1 : kd o1 = 10) (σ : Mem) (r : Mem) (h : fX2_follow o0 o1 σ = some r) : Met l yX2_follow (tw yX2_follow cX2_follow 3 none) { frames := 3, cells := 0, slots := 0, locals := 71 } (va_Pc [.ref (b + o0), .ref (b + o1)] (Pr l E (LC E b) σ)) (Qz E (LC E b) none r) 0 0 (La (LC E b)) := by
  refine ct_of (by decide) (Nat.le_of_ble_eq_true rfl) ?_
  intro p e s m below meth c C hW hS ls hl
  have hx0 := C.1
  have hb := C.2.1
  have hl : lv_has ls 3 [(0, .ref (b + o0)), (1, .ref (b + o1))] := hl
  unfold fX2_follow at h
  refine lv_aload_n hx0 hb dX2_follow_0 rfl (lv_at hl 0 rfl) ?_
  refine lv_iconst (v := (0 : Int32)) hx0 hb dX2_follow_1 (by decide) ?_
  refine ptX2_6 (k := o0) C hW hS ho0 flX2_35 dX2_follow_2 (fun H locs hW hS => ?_)
  refine lv_aload_n hx0 hb dX2_follow_5 rfl (lv_at hl 0 rfl) ?_
  refine gtX2_4 (k := o0) C hW ho0 flX2_29 dX2_follow_6 ?_
  refine lv_iconst (v := (-1 : Int32)) hx0 hb dX2_follow_9 (by decide) ?_
  obtain ⟨v10, h10, h⟩ := bnd h
  try dsimp only at h
  refine w_callV (L := (LC E b)) (k := o0 + 9) (As := [.int (-1 : Int32)]) (rest := []) C hW hS (kdlt (chX2_4 ho0) (by decide)) (ccX3 (chX2_4 ho0)) kcX3 (mX3_fill (o0 + 9) (-1 : Int32) (chX2_4 ho0) (up σ o0 6 (0 : Int32)) v10 h10) cwX3_fill cvX3_fill rfl mlX2_39 ⟨by decide, by decide⟩ rfl hl.1 (Nat.le_of_ble_eq_true rfl) ⟨by decide, by decide⟩ dX2_follow_10 rfl (fun H locs hW hS => ?_)
  refine lv_aload_n hx0 hb dX2_follow_13 rfl (lv_at hl 0 rfl) ?_
  refine gtX2_5 (k := o0) C hW ho0 flX2_32 dX2_follow_14 ?_
  refine lv_iconst (v := (-1 : Int32)) hx0 hb dX2_follow_17 (by decide) ?_
  obtain ⟨v18, h18, h⟩ := bnd h
  try dsimp only at h
  refine w_callV (L := (LC E b)) (k := o0 + 11) (As := [.int (-1 : Int32)]) (rest := []) C hW hS (kdlt (chX2_5 ho0) (by decide)) (ccX3 (chX2_5 ho0)) kcX3 (mX3_fill (o0 + 11) (-1 : Int32) (chX2_5 ho0) v10 v18 h18) cwX3_fill cvX3_fill rfl mlX2_39 ⟨by decide, by decide⟩ rfl hl.1 (Nat.le_of_ble_eq_true rfl) ⟨by decide, by decide⟩ dX2_follow_18 rfl (fun H locs hW hS => ?_)
  refine lv_iconst (v := (0 : Int32)) hx0 hb dX2_follow_21 (by decide) ?_
  refine lv_istore_n (lv' := [(2, .int (0 : Int32)), (0, .ref (b + o0)), (1, .ref (b + o1))]) hx0 hb dX2_follow_22 rfl hl (by decide) rfl (fun ls hl => ?_)
  obtain ⟨q23, h23, h⟩ := bnd h
  try dsimp only at h
  refine bX2_follow_l23 C o0 o1 ho0 ho1 (q := q23) ?_ FU (0 : Int32) v18 h23 _ _ _ hW hS (lv_sub hl [1, 2, 0] rfl)
  intro H locs ls hW hS hl
  cases h
  exact w_vret C hW hS dX2_follow_59
def fX2_size (o0 : Nat) (σ : Mem) : Option Int32 :=
  some (σ o0 6)
set_option maxRecDepth 100000 in
set_option maxHeartbeats 4000000 in
theorem mX2_size {l : Launch} {E : Ev} {b : Nat} (o0 : Nat) (ho0 : kd o0 = 2) (σ : Mem) (r : Int32) (h : fX2_size o0 σ = some r) : Met l yX2_size (tw yX2_size cX2_size 1 (some .int)) { frames := 0, cells := 0, slots := 0, locals := 0 } (va_Pc [.ref (b + o0)] (Pr l E (LC E b) σ)) (Qz E (LC E b) (some (.int r)) σ) 0 0 (La (LC E b)) := by
  refine ct_of (by decide) (Nat.le_of_ble_eq_true rfl) ?_
  intro p e s m below meth c C hW hS ls hl
  have hx0 := C.1
  have hb := C.2.1
  have hl : lv_has ls 1 [(0, .ref (b + o0))] := hl
  unfold fX2_size at h
  refine lv_aload_n hx0 hb dX2_size_0 rfl (lv_at hl 0 rfl) ?_
  refine gtX2_6 (k := o0) C hW ho0 flX2_35 dX2_size_1 ?_
  cases h
  exact w_iret C hW hS dX2_size_4
def fX2_leafAt (o0 : Nat) (x1 : Int32) (σ : Mem) : Option Int32 :=
  (fX3_at (o0 + 1) x1 σ).bind fun v5 => some v5
set_option maxRecDepth 100000 in
set_option maxHeartbeats 4000000 in
theorem mX2_leafAt {l : Launch} {E : Ev} {b : Nat} (o0 : Nat) (x1 : Int32) (ho0 : kd o0 = 2) (σ : Mem) (r : Int32) (h : fX2_leafAt o0 x1 σ = some r) : Met l yX2_leafAt (tw yX2_leafAt cX2_leafAt 2 (some .int)) { frames := 1, cells := 0, slots := 0, locals := 21 } (va_Pc [.ref (b + o0), .int x1] (Pr l E (LC E b) σ)) (Qz E (LC E b) (some (.int r)) σ) 0 0 (La (LC E b)) := by
  refine ct_of (by decide) (Nat.le_of_ble_eq_true rfl) ?_
  intro p e s m below meth c C hW hS ls hl
  have hx0 := C.1
  have hb := C.2.1
  have hl : lv_has ls 2 [(0, .ref (b + o0)), (1, .int x1)] := hl
  unfold fX2_leafAt at h
  refine lv_aload_n hx0 hb dX2_leafAt_0 rfl (lv_at hl 0 rfl) ?_
  refine gtX2_0 (k := o0) C hW ho0 flX2_14 dX2_leafAt_1 ?_
  refine lv_iload_n hx0 hb dX2_leafAt_4 rfl (lv_at hl 1 rfl) ?_
  obtain ⟨v5, h5, h⟩ := bnd h
  try dsimp only at h
  refine w_callV (L := (LC E b)) (k := o0 + 1) (As := [.int x1]) (rest := []) C hW hS (kdlt (chX2_0 ho0) (by decide)) (ccX3 (chX2_0 ho0)) kcX3 (mX3_at (o0 + 1) x1 (chX2_0 ho0) σ v5 h5) cwX3_at cvX3_at rfl mlX2_75 ⟨by decide, by decide⟩ rfl hl.1 (Nat.le_of_ble_eq_true rfl) ⟨by decide, by decide⟩ dX2_leafAt_5 rfl (fun H locs hW hS => ?_)
  cases h
  exact w_iret C hW hS dX2_leafAt_8
def fX2_leafSideAt (o0 : Nat) (x1 : Int32) (σ : Mem) : Option Int32 :=
  (fX3_at (o0 + 3) x1 σ).bind fun v5 => some v5
set_option maxRecDepth 100000 in
set_option maxHeartbeats 4000000 in
theorem mX2_leafSideAt {l : Launch} {E : Ev} {b : Nat} (o0 : Nat) (x1 : Int32) (ho0 : kd o0 = 2) (σ : Mem) (r : Int32) (h : fX2_leafSideAt o0 x1 σ = some r) : Met l yX2_leafSideAt (tw yX2_leafSideAt cX2_leafSideAt 2 (some .int)) { frames := 1, cells := 0, slots := 0, locals := 21 } (va_Pc [.ref (b + o0), .int x1] (Pr l E (LC E b) σ)) (Qz E (LC E b) (some (.int r)) σ) 0 0 (La (LC E b)) := by
  refine ct_of (by decide) (Nat.le_of_ble_eq_true rfl) ?_
  intro p e s m below meth c C hW hS ls hl
  have hx0 := C.1
  have hb := C.2.1
  have hl : lv_has ls 2 [(0, .ref (b + o0)), (1, .int x1)] := hl
  unfold fX2_leafSideAt at h
  refine lv_aload_n hx0 hb dX2_leafSideAt_0 rfl (lv_at hl 0 rfl) ?_
  refine gtX2_1 (k := o0) C hW ho0 flX2_20 dX2_leafSideAt_1 ?_
  refine lv_iload_n hx0 hb dX2_leafSideAt_4 rfl (lv_at hl 1 rfl) ?_
  obtain ⟨v5, h5, h⟩ := bnd h
  try dsimp only at h
  refine w_callV (L := (LC E b)) (k := o0 + 3) (As := [.int x1]) (rest := []) C hW hS (kdlt (chX2_1 ho0) (by decide)) (ccX3 (chX2_1 ho0)) kcX3 (mX3_at (o0 + 3) x1 (chX2_1 ho0) σ v5 h5) cwX3_at cvX3_at rfl mlX2_75 ⟨by decide, by decide⟩ rfl hl.1 (Nat.le_of_ble_eq_true rfl) ⟨by decide, by decide⟩ dX2_leafSideAt_5 rfl (fun H locs hW hS => ?_)
  cases h
  exact w_iret C hW hS dX2_leafSideAt_8
def fX2_slipAt (o0 : Nat) (x1 : Int32) (σ : Mem) : Option Int32 :=
  (fX3_at (o0 + 5) x1 σ).bind fun v5 => some v5
set_option maxRecDepth 100000 in
set_option maxHeartbeats 4000000 in
theorem mX2_slipAt {l : Launch} {E : Ev} {b : Nat} (o0 : Nat) (x1 : Int32) (ho0 : kd o0 = 2) (σ : Mem) (r : Int32) (h : fX2_slipAt o0 x1 σ = some r) : Met l yX2_slipAt (tw yX2_slipAt cX2_slipAt 2 (some .int)) { frames := 1, cells := 0, slots := 0, locals := 21 } (va_Pc [.ref (b + o0), .int x1] (Pr l E (LC E b) σ)) (Qz E (LC E b) (some (.int r)) σ) 0 0 (La (LC E b)) := by
  refine ct_of (by decide) (Nat.le_of_ble_eq_true rfl) ?_
  intro p e s m below meth c C hW hS ls hl
  have hx0 := C.1
  have hb := C.2.1
  have hl : lv_has ls 2 [(0, .ref (b + o0)), (1, .int x1)] := hl
  unfold fX2_slipAt at h
  refine lv_aload_n hx0 hb dX2_slipAt_0 rfl (lv_at hl 0 rfl) ?_
  refine gtX2_2 (k := o0) C hW ho0 flX2_23 dX2_slipAt_1 ?_
  refine lv_iload_n hx0 hb dX2_slipAt_4 rfl (lv_at hl 1 rfl) ?_
  obtain ⟨v5, h5, h⟩ := bnd h
  try dsimp only at h
  refine w_callV (L := (LC E b)) (k := o0 + 5) (As := [.int x1]) (rest := []) C hW hS (kdlt (chX2_2 ho0) (by decide)) (ccX3 (chX2_2 ho0)) kcX3 (mX3_at (o0 + 5) x1 (chX2_2 ho0) σ v5 h5) cwX3_at cvX3_at rfl mlX2_75 ⟨by decide, by decide⟩ rfl hl.1 (Nat.le_of_ble_eq_true rfl) ⟨by decide, by decide⟩ dX2_slipAt_5 rfl (fun H locs hW hS => ?_)
  cases h
  exact w_iret C hW hS dX2_slipAt_8
def fX2_slipSideAt (o0 : Nat) (x1 : Int32) (σ : Mem) : Option Int32 :=
  (fX3_at (o0 + 7) x1 σ).bind fun v5 => some v5
set_option maxRecDepth 100000 in
set_option maxHeartbeats 4000000 in
theorem mX2_slipSideAt {l : Launch} {E : Ev} {b : Nat} (o0 : Nat) (x1 : Int32) (ho0 : kd o0 = 2) (σ : Mem) (r : Int32) (h : fX2_slipSideAt o0 x1 σ = some r) : Met l yX2_slipSideAt (tw yX2_slipSideAt cX2_slipSideAt 2 (some .int)) { frames := 1, cells := 0, slots := 0, locals := 21 } (va_Pc [.ref (b + o0), .int x1] (Pr l E (LC E b) σ)) (Qz E (LC E b) (some (.int r)) σ) 0 0 (La (LC E b)) := by
  refine ct_of (by decide) (Nat.le_of_ble_eq_true rfl) ?_
  intro p e s m below meth c C hW hS ls hl
  have hx0 := C.1
  have hb := C.2.1
  have hl : lv_has ls 2 [(0, .ref (b + o0)), (1, .int x1)] := hl
  unfold fX2_slipSideAt at h
  refine lv_aload_n hx0 hb dX2_slipSideAt_0 rfl (lv_at hl 0 rfl) ?_
  refine gtX2_3 (k := o0) C hW ho0 flX2_26 dX2_slipSideAt_1 ?_
  refine lv_iload_n hx0 hb dX2_slipSideAt_4 rfl (lv_at hl 1 rfl) ?_
  obtain ⟨v5, h5, h⟩ := bnd h
  try dsimp only at h
  refine w_callV (L := (LC E b)) (k := o0 + 7) (As := [.int x1]) (rest := []) C hW hS (kdlt (chX2_3 ho0) (by decide)) (ccX3 (chX2_3 ho0)) kcX3 (mX3_at (o0 + 7) x1 (chX2_3 ho0) σ v5 h5) cwX3_at cvX3_at rfl mlX2_75 ⟨by decide, by decide⟩ rfl hl.1 (Nat.le_of_ble_eq_true rfl) ⟨by decide, by decide⟩ dX2_slipSideAt_5 rfl (fun H locs hW hS => ?_)
  cases h
  exact w_iret C hW hS dX2_slipSideAt_8
def fX2_placeOfLeaf (o0 : Nat) (x1 : Int32) (x2 : Int32) (σ : Mem) : Option Int32 :=
  if x1 = (-1 : Int32) then (some (-1 : Int32)) else ((fX3_at (o0 + 9) (((2 : Int32) * x1) + x2) σ).bind fun v18 => some v18)
set_option maxRecDepth 100000 in
set_option maxHeartbeats 4000000 in
theorem mX2_placeOfLeaf {l : Launch} {E : Ev} {b : Nat} (o0 : Nat) (x1 : Int32) (x2 : Int32) (ho0 : kd o0 = 2) (σ : Mem) (r : Int32) (h : fX2_placeOfLeaf o0 x1 x2 σ = some r) : Met l yX2_placeOfLeaf (tw yX2_placeOfLeaf cX2_placeOfLeaf 3 (some .int)) { frames := 1, cells := 0, slots := 0, locals := 21 } (va_Pc [.ref (b + o0), .int x1, .int x2] (Pr l E (LC E b) σ)) (Qz E (LC E b) (some (.int r)) σ) 0 0 (La (LC E b)) := by
  refine ct_of (by decide) (Nat.le_of_ble_eq_true rfl) ?_
  intro p e s m below meth c C hW hS ls hl
  have hx0 := C.1
  have hb := C.2.1
  have hl : lv_has ls 3 [(0, .ref (b + o0)), (1, .int x1), (2, .int x2)] := hl
  unfold fX2_placeOfLeaf at h
  refine lv_iload_n hx0 hb dX2_placeOfLeaf_0 rfl (lv_at hl 1 rfl) ?_
  refine lv_iconst (v := (-1 : Int32)) hx0 hb dX2_placeOfLeaf_1 (by decide) ?_
  refine lv_icmp_ne (tgt := 9) hx0 hb dX2_placeOfLeaf_2 (by decide) (fun c2 => ?_) (fun c2 => ?_)
  · rw [if_neg c2] at h
    refine lv_aload_n hx0 hb dX2_placeOfLeaf_9 rfl (lv_at hl 0 rfl) ?_
    refine gtX2_4 (k := o0) C hW ho0 flX2_29 dX2_placeOfLeaf_10 ?_
    refine lv_iconst (v := (2 : Int32)) hx0 hb dX2_placeOfLeaf_13 (by decide) ?_
    refine lv_iload_n hx0 hb dX2_placeOfLeaf_14 rfl (lv_at hl 1 rfl) ?_
    refine lv_imul hx0 hb dX2_placeOfLeaf_15 ?_
    refine lv_iload_n hx0 hb dX2_placeOfLeaf_16 rfl (lv_at hl 2 rfl) ?_
    refine lv_iadd hx0 hb dX2_placeOfLeaf_17 ?_
    obtain ⟨v18, h18, h⟩ := bnd h
    try dsimp only at h
    refine w_callV (L := (LC E b)) (k := o0 + 9) (As := [.int (((2 : Int32) * x1) + x2)]) (rest := []) C hW hS (kdlt (chX2_4 ho0) (by decide)) (ccX3 (chX2_4 ho0)) kcX3 (mX3_at (o0 + 9) (((2 : Int32) * x1) + x2) (chX2_4 ho0) σ v18 h18) cwX3_at cvX3_at rfl mlX2_75 ⟨by decide, by decide⟩ rfl hl.1 (Nat.le_of_ble_eq_true rfl) ⟨by decide, by decide⟩ dX2_placeOfLeaf_18 rfl (fun H locs hW hS => ?_)
    cases h
    exact w_iret C hW hS dX2_placeOfLeaf_21
  · rw [if_pos c2] at h
    refine lv_iconst (v := (-1 : Int32)) hx0 hb dX2_placeOfLeaf_5 (by decide) ?_
    refine lv_goto (tgt := 21) hx0 hb dX2_placeOfLeaf_6 (by decide) ?_
    cases h
    exact w_iret C hW hS dX2_placeOfLeaf_21
def fX2_placeOfSlip (o0 : Nat) (x1 : Int32) (x2 : Int32) (σ : Mem) : Option Int32 :=
  (fX3_at (o0 + 11) (((2 : Int32) * x1) + x2) σ).bind fun v9 => some v9
set_option maxRecDepth 100000 in
set_option maxHeartbeats 4000000 in
theorem mX2_placeOfSlip {l : Launch} {E : Ev} {b : Nat} (o0 : Nat) (x1 : Int32) (x2 : Int32) (ho0 : kd o0 = 2) (σ : Mem) (r : Int32) (h : fX2_placeOfSlip o0 x1 x2 σ = some r) : Met l yX2_placeOfSlip (tw yX2_placeOfSlip cX2_placeOfSlip 3 (some .int)) { frames := 1, cells := 0, slots := 0, locals := 21 } (va_Pc [.ref (b + o0), .int x1, .int x2] (Pr l E (LC E b) σ)) (Qz E (LC E b) (some (.int r)) σ) 0 0 (La (LC E b)) := by
  refine ct_of (by decide) (Nat.le_of_ble_eq_true rfl) ?_
  intro p e s m below meth c C hW hS ls hl
  have hx0 := C.1
  have hb := C.2.1
  have hl : lv_has ls 3 [(0, .ref (b + o0)), (1, .int x1), (2, .int x2)] := hl
  unfold fX2_placeOfSlip at h
  refine lv_aload_n hx0 hb dX2_placeOfSlip_0 rfl (lv_at hl 0 rfl) ?_
  refine gtX2_5 (k := o0) C hW ho0 flX2_32 dX2_placeOfSlip_1 ?_
  refine lv_iconst (v := (2 : Int32)) hx0 hb dX2_placeOfSlip_4 (by decide) ?_
  refine lv_iload_n hx0 hb dX2_placeOfSlip_5 rfl (lv_at hl 1 rfl) ?_
  refine lv_imul hx0 hb dX2_placeOfSlip_6 ?_
  refine lv_iload_n hx0 hb dX2_placeOfSlip_7 rfl (lv_at hl 2 rfl) ?_
  refine lv_iadd hx0 hb dX2_placeOfSlip_8 ?_
  obtain ⟨v9, h9, h⟩ := bnd h
  try dsimp only at h
  refine w_callV (L := (LC E b)) (k := o0 + 11) (As := [.int (((2 : Int32) * x1) + x2)]) (rest := []) C hW hS (kdlt (chX2_5 ho0) (by decide)) (ccX3 (chX2_5 ho0)) kcX3 (mX3_at (o0 + 11) (((2 : Int32) * x1) + x2) (chX2_5 ho0) σ v9 h9) cwX3_at cvX3_at rfl mlX2_75 ⟨by decide, by decide⟩ rfl hl.1 (Nat.le_of_ble_eq_true rfl) ⟨by decide, by decide⟩ dX2_placeOfSlip_9 rfl (fun H locs hW hS => ?_)
  cases h
  exact w_iret C hW hS dX2_placeOfSlip_12
