/-! PageArchive$ScanPlaces, by program out of the bytecode -/
def fX4_putPlaces (o0 : Nat) (x1 : Int32) (x2 : Int32) (x3 : Int32) (σ : Mem) : Option Mem :=
  if x2 = (-1 : Int32) then ((fX3_put (o0 + 1) x1 x3 σ).bind fun v15 => if x2 = (-1 : Int32) then ((fX3_put (o0 + 3) x1 (-1 : Int32) v15).bind fun v33 => some v33) else ((fX3_put (o0 + 3) x1 x3 v15).bind fun v33 => some v33)) else ((fX3_put (o0 + 1) x1 x2 σ).bind fun v15 => if x2 = (-1 : Int32) then ((fX3_put (o0 + 3) x1 (-1 : Int32) v15).bind fun v33 => some v33) else ((fX3_put (o0 + 3) x1 x3 v15).bind fun v33 => some v33))
set_option maxRecDepth 100000 in
set_option maxHeartbeats 4000000 in
theorem mX4_putPlaces {l : Launch} {E : Ev} {b : Nat} (o0 : Nat) (x1 : Int32) (x2 : Int32) (x3 : Int32) (ho0 : kd o0 = 4) (σ : Mem) (r : Mem) (h : fX4_putPlaces o0 x1 x2 x3 σ = some r) : Met l yX4_putPlaces (tw yX4_putPlaces cX4_putPlaces 4 none) { frames := 1, cells := 0, slots := 0, locals := 22 } (va_Pc [.ref (b + o0), .int x1, .int x2, .int x3] (Pr l E (LC E b) σ)) (Qz E (LC E b) none r) 0 0 (La (LC E b)) := by
  refine ct_of (by decide) (Nat.le_of_ble_eq_true rfl) ?_
  intro p e s m below meth c C hW hS ls hl
  have hx0 := C.1
  have hb := C.2.1
  have hl : lv_has ls 4 [(0, .ref (b + o0)), (1, .int x1), (2, .int x2), (3, .int x3)] := hl
  unfold fX4_putPlaces at h
  refine lv_aload_n hx0 hb dX4_putPlaces_0 rfl (lv_at hl 0 rfl) ?_
  refine gtX4_0 (k := o0) C hW ho0 flX4_14 dX4_putPlaces_1 ?_
  refine lv_iload_n hx0 hb dX4_putPlaces_4 rfl (lv_at hl 1 rfl) ?_
  refine lv_iload_n hx0 hb dX4_putPlaces_5 rfl (lv_at hl 2 rfl) ?_
  refine lv_iconst (v := (-1 : Int32)) hx0 hb dX4_putPlaces_6 (by decide) ?_
  refine lv_icmp_ne (tgt := 14) hx0 hb dX4_putPlaces_7 (by decide) (fun c7 => ?_) (fun c7 => ?_)
  · rw [if_neg c7] at h
    refine lv_iload_n hx0 hb dX4_putPlaces_14 rfl (lv_at hl 2 rfl) ?_
    obtain ⟨v15, h15, h⟩ := bnd h
    try dsimp only at h
    refine w_callV (L := (LC E b)) (k := o0 + 1) (As := [.int x1, .int x2]) (rest := []) C hW hS (kdlt (chX4_0 ho0) (by decide)) (ccX3 (chX4_0 ho0)) kcX3 (mX3_put (o0 + 1) x1 x2 (chX4_0 ho0) σ v15 h15) cwX3_put cvX3_put rfl mlX4_64 ⟨by decide, by decide⟩ rfl hl.1 (Nat.le_of_ble_eq_true rfl) ⟨by decide, by decide⟩ dX4_putPlaces_15 rfl (fun H locs hW hS => ?_)
    refine lv_aload_n hx0 hb dX4_putPlaces_18 rfl (lv_at hl 0 rfl) ?_
    refine gtX4_1 (k := o0) C hW ho0 flX4_20 dX4_putPlaces_19 ?_
    refine lv_iload_n hx0 hb dX4_putPlaces_22 rfl (lv_at hl 1 rfl) ?_
    refine lv_iload_n hx0 hb dX4_putPlaces_23 rfl (lv_at hl 2 rfl) ?_
    refine lv_iconst (v := (-1 : Int32)) hx0 hb dX4_putPlaces_24 (by decide) ?_
    refine lv_icmp_ne (tgt := 32) hx0 hb dX4_putPlaces_25 (by decide) (fun c25 => ?_) (fun c25 => ?_)
    · rw [if_neg c25] at h
      refine lv_iload_n hx0 hb dX4_putPlaces_32 rfl (lv_at hl 3 rfl) ?_
      obtain ⟨v33, h33, h⟩ := bnd h
      try dsimp only at h
      refine w_callV (L := (LC E b)) (k := o0 + 3) (As := [.int x1, .int x3]) (rest := []) C hW hS (kdlt (chX4_1 ho0) (by decide)) (ccX3 (chX4_1 ho0)) kcX3 (mX3_put (o0 + 3) x1 x3 (chX4_1 ho0) v15 v33 h33) cwX3_put cvX3_put rfl mlX4_64 ⟨by decide, by decide⟩ rfl hl.1 (Nat.le_of_ble_eq_true rfl) ⟨by decide, by decide⟩ dX4_putPlaces_33 rfl (fun H locs hW hS => ?_)
      cases h
      exact w_vret C hW hS dX4_putPlaces_36
    · rw [if_pos c25] at h
      refine lv_iconst (v := (-1 : Int32)) hx0 hb dX4_putPlaces_28 (by decide) ?_
      refine lv_goto (tgt := 33) hx0 hb dX4_putPlaces_29 (by decide) ?_
      obtain ⟨v33, h33, h⟩ := bnd h
      try dsimp only at h
      refine w_callV (L := (LC E b)) (k := o0 + 3) (As := [.int x1, .int (-1 : Int32)]) (rest := []) C hW hS (kdlt (chX4_1 ho0) (by decide)) (ccX3 (chX4_1 ho0)) kcX3 (mX3_put (o0 + 3) x1 (-1 : Int32) (chX4_1 ho0) v15 v33 h33) cwX3_put cvX3_put rfl mlX4_64 ⟨by decide, by decide⟩ rfl hl.1 (Nat.le_of_ble_eq_true rfl) ⟨by decide, by decide⟩ dX4_putPlaces_33 rfl (fun H locs hW hS => ?_)
      cases h
      exact w_vret C hW hS dX4_putPlaces_36
  · rw [if_pos c7] at h
    refine lv_iload_n hx0 hb dX4_putPlaces_10 rfl (lv_at hl 3 rfl) ?_
    refine lv_goto (tgt := 15) hx0 hb dX4_putPlaces_11 (by decide) ?_
    obtain ⟨v15, h15, h⟩ := bnd h
    try dsimp only at h
    refine w_callV (L := (LC E b)) (k := o0 + 1) (As := [.int x1, .int x3]) (rest := []) C hW hS (kdlt (chX4_0 ho0) (by decide)) (ccX3 (chX4_0 ho0)) kcX3 (mX3_put (o0 + 1) x1 x3 (chX4_0 ho0) σ v15 h15) cwX3_put cvX3_put rfl mlX4_64 ⟨by decide, by decide⟩ rfl hl.1 (Nat.le_of_ble_eq_true rfl) ⟨by decide, by decide⟩ dX4_putPlaces_15 rfl (fun H locs hW hS => ?_)
    refine lv_aload_n hx0 hb dX4_putPlaces_18 rfl (lv_at hl 0 rfl) ?_
    refine gtX4_1 (k := o0) C hW ho0 flX4_20 dX4_putPlaces_19 ?_
    refine lv_iload_n hx0 hb dX4_putPlaces_22 rfl (lv_at hl 1 rfl) ?_
    refine lv_iload_n hx0 hb dX4_putPlaces_23 rfl (lv_at hl 2 rfl) ?_
    refine lv_iconst (v := (-1 : Int32)) hx0 hb dX4_putPlaces_24 (by decide) ?_
    refine lv_icmp_ne (tgt := 32) hx0 hb dX4_putPlaces_25 (by decide) (fun c25 => ?_) (fun c25 => ?_)
    · rw [if_neg c25] at h
      refine lv_iload_n hx0 hb dX4_putPlaces_32 rfl (lv_at hl 3 rfl) ?_
      obtain ⟨v33, h33, h⟩ := bnd h
      try dsimp only at h
      refine w_callV (L := (LC E b)) (k := o0 + 3) (As := [.int x1, .int x3]) (rest := []) C hW hS (kdlt (chX4_1 ho0) (by decide)) (ccX3 (chX4_1 ho0)) kcX3 (mX3_put (o0 + 3) x1 x3 (chX4_1 ho0) v15 v33 h33) cwX3_put cvX3_put rfl mlX4_64 ⟨by decide, by decide⟩ rfl hl.1 (Nat.le_of_ble_eq_true rfl) ⟨by decide, by decide⟩ dX4_putPlaces_33 rfl (fun H locs hW hS => ?_)
      cases h
      exact w_vret C hW hS dX4_putPlaces_36
    · rw [if_pos c25] at h
      refine lv_iconst (v := (-1 : Int32)) hx0 hb dX4_putPlaces_28 (by decide) ?_
      refine lv_goto (tgt := 33) hx0 hb dX4_putPlaces_29 (by decide) ?_
      obtain ⟨v33, h33, h⟩ := bnd h
      try dsimp only at h
      refine w_callV (L := (LC E b)) (k := o0 + 3) (As := [.int x1, .int (-1 : Int32)]) (rest := []) C hW hS (kdlt (chX4_1 ho0) (by decide)) (ccX3 (chX4_1 ho0)) kcX3 (mX3_put (o0 + 3) x1 (-1 : Int32) (chX4_1 ho0) v15 v33 h33) cwX3_put cvX3_put rfl mlX4_64 ⟨by decide, by decide⟩ rfl hl.1 (Nat.le_of_ble_eq_true rfl) ⟨by decide, by decide⟩ dX4_putPlaces_33 rfl (fun H locs hW hS => ?_)
      cases h
      exact w_vret C hW hS dX4_putPlaces_36
def fX4_follow_l10 (o0 : Nat) (o1 : Nat) (o2 : Nat) : Nat → Int32 → Mem → Option (Int32 × Mem)
  | 0, _, _ => none
  | n + 1, x3, σ => if (σ o0 5) ≤ x3 then (some (x3, σ)) else ((fX5_firstOf o1 x3 σ).bind fun v20 => (fX5_secondOf o1 x3 σ).bind fun v27 => (fX5_kindOf o1 x3 σ).bind fun v34 => if v34 = (1 : Int32) then ((fX2_placeOfLeaf o2 v20 (1 : Int32) σ).bind fun v51 => (fX2_placeOfLeaf o2 v27 (0 : Int32) σ).bind fun v58 => (fX4_putPlaces o0 x3 v51 v58 σ).bind fun v61 => fX4_follow_l10 o0 o1 o2 n (x3 + (1 : Int32)) v61) else (if v34 = (2 : Int32) then ((fX2_placeOfSlip o2 v20 v27 σ).bind fun v80 => (fX4_putPlaces o0 x3 v80 (-1 : Int32) σ).bind fun v84 => fX4_follow_l10 o0 o1 o2 n (x3 + (1 : Int32)) v84) else ((fX2_placeOfLeaf o2 v20 v27 σ).bind fun v97 => (fX4_putPlaces o0 x3 v97 (-1 : Int32) σ).bind fun v101 => fX4_follow_l10 o0 o1 o2 n (x3 + (1 : Int32)) v101)))
set_option maxRecDepth 100000 in
set_option maxHeartbeats 4000000 in
theorem bX4_follow_l10 {p : Program} {l : Launch} {e : Env} {s : State} {m : MethodId} {args : Array Value} {below : List Frame} {meth : Method} {c : Code} {E : Ev} {b : Nat} (C : Cx p l s m args meth c E cX4_follow 7 RX4 none) (o0 : Nat) (o1 : Nat) (o2 : Nat) (ho0 : kd o0 = 4) (ho1 : kd o1 = 5) (ho2 : kd o2 = 2) {Qf : State → Prop} {q : Int32 × Mem} (hx : ∀ H locs ls, Wd E (LC E b) q.2 H → va_S (La (LC E b)) s.heap H locs → lv_has ls 7 [(0, .ref (b + o0)), (1, .ref (b + o1)), (2, .ref (b + o2)), (3, .int q.1)] → W p l e { frames := 2, cells := 0, slots := 0, locals := 45 } s m args below meth c H locs 0 0 Qf (F0 m 110 ls [])) : ∀ (n : Nat) (x3 : Int32) (σ : Mem), fX4_follow_l10 o0 o1 o2 n x3 σ = some q → ∀ (H : Heap) (locs : List Loc) (ls : Array Slot), Wd E (LC E b) σ H → va_S (La (LC E b)) s.heap H locs → lv_has ls 7 [(0, .ref (b + o0)), (1, .ref (b + o1)), (2, .ref (b + o2)), (3, .int x3)] → W p l e { frames := 2, cells := 0, slots := 0, locals := 45 } s m args below meth c H locs 0 0 Qf (F0 m 10 ls []) := by
  have hx0 := C.1
  have hb := C.2.1
  intro n
  induction n with
  | zero => intro x3 σ h; simp [fX4_follow_l10] at h
  | succ n ih =>
    intro x3 σ h H locs ls hW hS hl
    unfold fX4_follow_l10 at h
    refine lv_iload_n hx0 hb dX4_follow_10 rfl (lv_at hl 3 rfl) ?_
    refine lv_aload_n hx0 hb dX4_follow_11 rfl (lv_at hl 0 rfl) ?_
    refine gtX4_5 (k := o0) C hW ho0 flX4_32 dX4_follow_12 ?_
    refine lv_icmp_ge (tgt := 110) hx0 hb dX4_follow_15 (by decide) (fun c15 => ?_) (fun c15 => ?_)
    · rw [if_pos c15] at h
      cases h
      exact hx _ _ _ hW hS (lv_sub hl [0, 1, 2, 3] rfl)
    · rw [if_neg c15] at h
      refine lv_aload_n hx0 hb dX4_follow_18 rfl (lv_at hl 1 rfl) ?_
      refine lv_iload_n hx0 hb dX4_follow_19 rfl (lv_at hl 3 rfl) ?_
      obtain ⟨v20, h20, h⟩ := bnd h
      try dsimp only at h
      refine w_callV (L := (LC E b)) (k := o1) (As := [.int x3]) (rest := []) C hW hS (kdlt ho1 (by decide)) (ccX5 ho1) kcX5 (mX5_firstOf o1 x3 ho1 σ v20 h20) cwX5_firstOf cvX5_firstOf rfl mlX4_41 ⟨by decide, by decide⟩ rfl hl.1 (Nat.le_of_ble_eq_true rfl) ⟨by decide, by decide⟩ dX4_follow_20 rfl (fun H locs hW hS => ?_)
      refine lv_istore (lv' := [(4, .int v20), (0, .ref (b + o0)), (1, .ref (b + o1)), (2, .ref (b + o2)), (3, .int x3)]) hx0 hb dX4_follow_23 hl (by decide) rfl (fun ls hl => ?_)
      refine lv_aload_n hx0 hb dX4_follow_25 rfl (lv_at hl 2 rfl) ?_
      refine lv_iload_n hx0 hb dX4_follow_26 rfl (lv_at hl 4 rfl) ?_
      obtain ⟨v27, h27, h⟩ := bnd h
      try dsimp only at h
      refine w_callV (L := (LC E b)) (k := o1) (As := [.int x3]) (rest := []) C hW hS (kdlt ho1 (by decide)) (ccX5 ho1) kcX5 (mX5_secondOf o1 x3 ho1 σ v27 h27) cwX5_secondOf cvX5_secondOf rfl mlX4_45 ⟨by decide, by decide⟩ rfl hl.1 (Nat.le_of_ble_eq_true rfl) ⟨by decide, by decide⟩ dX4_follow_27 rfl (fun H locs hW hS => ?_)
      refine lv_istore (lv' := [(5, .int v27), (4, .int v20), (0, .ref (b + o0)), (1, .ref (b + o1)), (2, .ref (b + o2)), (3, .int x3)]) hx0 hb dX4_follow_30 hl (by decide) rfl (fun ls hl => ?_)
      refine lv_aload_n hx0 hb dX4_follow_32 rfl (lv_at hl 3 rfl) ?_
      refine lv_iload_n hx0 hb dX4_follow_33 rfl (lv_at hl 5 rfl) ?_
      obtain ⟨v34, h34, h⟩ := bnd h
      try dsimp only at h
      refine w_callV (L := (LC E b)) (k := o1) (As := [.int x3]) (rest := []) C hW hS (kdlt ho1 (by decide)) (ccX5 ho1) kcX5 (mX5_kindOf o1 x3 ho1 σ v34 h34) cwX5_kindOf cvX5_kindOf rfl mlX4_48 ⟨by decide, by decide⟩ rfl hl.1 (Nat.le_of_ble_eq_true rfl) ⟨by decide, by decide⟩ dX4_follow_34 rfl (fun H locs hW hS => ?_)
      refine lv_istore (lv' := [(6, .int v34), (5, .int v27), (4, .int v20), (0, .ref (b + o0)), (1, .ref (b + o1)), (2, .ref (b + o2)), (3, .int x3)]) hx0 hb dX4_follow_37 hl (by decide) rfl (fun ls hl => ?_)
      refine lv_iload hx0 hb dX4_follow_39 (lv_at hl 0 rfl) ?_
      refine lv_iconst (v := (1 : Int32)) hx0 hb dX4_follow_41 (by decide) ?_
      refine lv_icmp_ne (tgt := 67) hx0 hb dX4_follow_42 (by decide) (fun c42 => ?_) (fun c42 => ?_)
      · rw [if_neg c42] at h
        refine lv_iload hx0 hb dX4_follow_67 (lv_at hl 0 rfl) ?_
        refine lv_iconst (v := (2 : Int32)) hx0 hb dX4_follow_69 (by decide) ?_
        refine lv_icmp_ne (tgt := 90) hx0 hb dX4_follow_70 (by decide) (fun c70 => ?_) (fun c70 => ?_)
        · rw [if_neg c70] at h
          refine lv_aload_n hx0 hb dX4_follow_90 rfl (lv_at hl 3 rfl) ?_
          refine lv_iload_n hx0 hb dX4_follow_91 rfl (lv_at hl 6 rfl) ?_
          refine lv_aload_n hx0 hb dX4_follow_92 rfl (lv_at hl 5 rfl) ?_
          refine lv_iload hx0 hb dX4_follow_93 (lv_at hl 2 rfl) ?_
          refine lv_iload hx0 hb dX4_follow_95 (lv_at hl 1 rfl) ?_
          obtain ⟨v97, h97, h⟩ := bnd h
          try dsimp only at h
          refine w_callV (L := (LC E b)) (k := o2) (As := [.int v20, .int v27]) (rest := [.int x3, .ref (b + o0)]) C hW hS (kdlt ho2 (by decide)) (ccX2 ho2) kcX2 (mX2_placeOfLeaf o2 v20 v27 ho2 σ v97 h97) cwX2_placeOfLeaf cvX2_placeOfLeaf rfl mlX4_51 ⟨by decide, by decide⟩ rfl hl.1 (Nat.le_of_ble_eq_true rfl) ⟨by decide, by decide⟩ dX4_follow_97 rfl (fun H locs hW hS => ?_)
          refine lv_iconst (v := (-1 : Int32)) hx0 hb dX4_follow_100 (by decide) ?_
          obtain ⟨v101, h101, h⟩ := bnd h
          try dsimp only at h
          refine w_callV (L := (LC E b)) (k := o0) (As := [.int x3, .int v97, .int (-1 : Int32)]) (rest := []) C hW hS (kdlt ho0 (by decide)) (ccX4 ho0) kcX4 (mX4_putPlaces o0 x3 v97 (-1 : Int32) ho0 σ v101 h101) cwX4_putPlaces cvX4_putPlaces rfl mlX4_57 ⟨by decide, by decide⟩ rfl hl.1 (Nat.le_of_ble_eq_true rfl) ⟨by decide, by decide⟩ dX4_follow_101 rfl (fun H locs hW hS => ?_)
          refine lv_iinc (v := x3 + (1 : Int32)) (lv' := [(3, .int (x3 + (1 : Int32))), (6, .int v34), (5, .int v27), (4, .int v20), (0, .ref (b + o0)), (1, .ref (b + o1)), (2, .ref (b + o2))]) hx0 hb dX4_follow_104 hl (k := 6) rfl rfl (by decide) rfl (fun ls hl => ?_)
          refine lv_goto (tgt := 10) hx0 hb dX4_follow_107 (by decide) ?_
          exact ih (x3 + (1 : Int32)) v101 h _ _ _ hW hS (lv_sub hl [4, 5, 6, 0] rfl)
        · rw [if_pos c70] at h
          refine lv_aload_n hx0 hb dX4_follow_73 rfl (lv_at hl 3 rfl) ?_
          refine lv_iload_n hx0 hb dX4_follow_74 rfl (lv_at hl 6 rfl) ?_
          refine lv_aload_n hx0 hb dX4_follow_75 rfl (lv_at hl 5 rfl) ?_
          refine lv_iload hx0 hb dX4_follow_76 (lv_at hl 2 rfl) ?_
          refine lv_iload hx0 hb dX4_follow_78 (lv_at hl 1 rfl) ?_
          obtain ⟨v80, h80, h⟩ := bnd h
          try dsimp only at h
          refine w_callV (L := (LC E b)) (k := o2) (As := [.int v20, .int v27]) (rest := [.int x3, .ref (b + o0)]) C hW hS (kdlt ho2 (by decide)) (ccX2 ho2) kcX2 (mX2_placeOfSlip o2 v20 v27 ho2 σ v80 h80) cwX2_placeOfSlip cvX2_placeOfSlip rfl mlX4_61 ⟨by decide, by decide⟩ rfl hl.1 (Nat.le_of_ble_eq_true rfl) ⟨by decide, by decide⟩ dX4_follow_80 rfl (fun H locs hW hS => ?_)
          refine lv_iconst (v := (-1 : Int32)) hx0 hb dX4_follow_83 (by decide) ?_
          obtain ⟨v84, h84, h⟩ := bnd h
          try dsimp only at h
          refine w_callV (L := (LC E b)) (k := o0) (As := [.int x3, .int v80, .int (-1 : Int32)]) (rest := []) C hW hS (kdlt ho0 (by decide)) (ccX4 ho0) kcX4 (mX4_putPlaces o0 x3 v80 (-1 : Int32) ho0 σ v84 h84) cwX4_putPlaces cvX4_putPlaces rfl mlX4_57 ⟨by decide, by decide⟩ rfl hl.1 (Nat.le_of_ble_eq_true rfl) ⟨by decide, by decide⟩ dX4_follow_84 rfl (fun H locs hW hS => ?_)
          refine lv_goto (tgt := 104) hx0 hb dX4_follow_87 (by decide) ?_
          refine lv_iinc (v := x3 + (1 : Int32)) (lv' := [(3, .int (x3 + (1 : Int32))), (6, .int v34), (5, .int v27), (4, .int v20), (0, .ref (b + o0)), (1, .ref (b + o1)), (2, .ref (b + o2))]) hx0 hb dX4_follow_104 hl (k := 6) rfl rfl (by decide) rfl (fun ls hl => ?_)
          refine lv_goto (tgt := 10) hx0 hb dX4_follow_107 (by decide) ?_
          exact ih (x3 + (1 : Int32)) v84 h _ _ _ hW hS (lv_sub hl [4, 5, 6, 0] rfl)
      · rw [if_pos c42] at h
        refine lv_aload_n hx0 hb dX4_follow_45 rfl (lv_at hl 3 rfl) ?_
        refine lv_iload_n hx0 hb dX4_follow_46 rfl (lv_at hl 6 rfl) ?_
        refine lv_aload_n hx0 hb dX4_follow_47 rfl (lv_at hl 5 rfl) ?_
        refine lv_iload hx0 hb dX4_follow_48 (lv_at hl 2 rfl) ?_
        refine lv_iconst (v := (1 : Int32)) hx0 hb dX4_follow_50 (by decide) ?_
        obtain ⟨v51, h51, h⟩ := bnd h
        try dsimp only at h
        refine w_callV (L := (LC E b)) (k := o2) (As := [.int v20, .int (1 : Int32)]) (rest := [.int x3, .ref (b + o0)]) C hW hS (kdlt ho2 (by decide)) (ccX2 ho2) kcX2 (mX2_placeOfLeaf o2 v20 (1 : Int32) ho2 σ v51 h51) cwX2_placeOfLeaf cvX2_placeOfLeaf rfl mlX4_51 ⟨by decide, by decide⟩ rfl hl.1 (Nat.le_of_ble_eq_true rfl) ⟨by decide, by decide⟩ dX4_follow_51 rfl (fun H locs hW hS => ?_)
        refine lv_aload_n hx0 hb dX4_follow_54 rfl (lv_at hl 5 rfl) ?_
        refine lv_iload hx0 hb dX4_follow_55 (lv_at hl 1 rfl) ?_
        refine lv_iconst (v := (0 : Int32)) hx0 hb dX4_follow_57 (by decide) ?_
        obtain ⟨v58, h58, h⟩ := bnd h
        try dsimp only at h
        refine w_callV (L := (LC E b)) (k := o2) (As := [.int v27, .int (0 : Int32)]) (rest := [.int v51, .int x3, .ref (b + o0)]) C hW hS (kdlt ho2 (by decide)) (ccX2 ho2) kcX2 (mX2_placeOfLeaf o2 v27 (0 : Int32) ho2 σ v58 h58) cwX2_placeOfLeaf cvX2_placeOfLeaf rfl mlX4_51 ⟨by decide, by decide⟩ rfl hl.1 (Nat.le_of_ble_eq_true rfl) ⟨by decide, by decide⟩ dX4_follow_58 rfl (fun H locs hW hS => ?_)
        obtain ⟨v61, h61, h⟩ := bnd h
        try dsimp only at h
        refine w_callV (L := (LC E b)) (k := o0) (As := [.int x3, .int v51, .int v58]) (rest := []) C hW hS (kdlt ho0 (by decide)) (ccX4 ho0) kcX4 (mX4_putPlaces o0 x3 v51 v58 ho0 σ v61 h61) cwX4_putPlaces cvX4_putPlaces rfl mlX4_57 ⟨by decide, by decide⟩ rfl hl.1 (Nat.le_of_ble_eq_true rfl) ⟨by decide, by decide⟩ dX4_follow_61 rfl (fun H locs hW hS => ?_)
        refine lv_goto (tgt := 104) hx0 hb dX4_follow_64 (by decide) ?_
        refine lv_iinc (v := x3 + (1 : Int32)) (lv' := [(3, .int (x3 + (1 : Int32))), (6, .int v34), (5, .int v27), (4, .int v20), (0, .ref (b + o0)), (1, .ref (b + o1)), (2, .ref (b + o2))]) hx0 hb dX4_follow_104 hl (k := 6) rfl rfl (by decide) rfl (fun ls hl => ?_)
        refine lv_goto (tgt := 10) hx0 hb dX4_follow_107 (by decide) ?_
        exact ih (x3 + (1 : Int32)) v61 h _ _ _ hW hS (lv_sub hl [4, 5, 6, 0] rfl)
def fX4_follow (o0 : Nat) (o1 : Nat) (o2 : Nat) (σ : Mem) : Option Mem :=
  (fX5_size o1 σ).bind fun v2 => (fX4_follow_l10 o0 o1 o2 FU (0 : Int32) (up σ o0 5 v2)).bind fun q10 => some q10.2
set_option maxRecDepth 100000 in
set_option maxHeartbeats 4000000 in
theorem mX4_follow {l : Launch} {E : Ev} {b : Nat} (o0 : Nat) (o1 : Nat) (o2 : Nat) (ho0 : kd o0 = 4) (ho1 : kd o1 = 5) (ho2 : kd o2 = 2) (σ : Mem) (r : Mem) (h : fX4_follow o0 o1 o2 σ = some r) : Met l yX4_follow (tw yX4_follow cX4_follow 7 none) { frames := 2, cells := 0, slots := 0, locals := 45 } (va_Pc [.ref (b + o0), .ref (b + o1), .ref (b + o2)] (Pr l E (LC E b) σ)) (Qz E (LC E b) none r) 0 0 (La (LC E b)) := by
  refine ct_of (by decide) (Nat.le_of_ble_eq_true rfl) ?_
  intro p e s m below meth c C hW hS ls hl
  have hx0 := C.1
  have hb := C.2.1
  have hl : lv_has ls 7 [(0, .ref (b + o0)), (1, .ref (b + o1)), (2, .ref (b + o2))] := hl
  unfold fX4_follow at h
  refine lv_aload_n hx0 hb dX4_follow_0 rfl (lv_at hl 0 rfl) ?_
  refine lv_aload_n hx0 hb dX4_follow_1 rfl (lv_at hl 1 rfl) ?_
  obtain ⟨v2, h2, h⟩ := bnd h
  try dsimp only at h
  refine w_callV (L := (LC E b)) (k := o1) (As := []) (rest := [.ref (b + o0)]) C hW hS (kdlt ho1 (by decide)) (ccX5 ho1) kcX5 (mX5_size o1 ho1 σ v2 h2) cwX5_size cvX5_size rfl mlX4_36 ⟨by decide, by decide⟩ rfl hl.1 (Nat.le_of_ble_eq_true rfl) ⟨by decide, by decide⟩ dX4_follow_2 rfl (fun H locs hW hS => ?_)
  refine ptX4_5 (k := o0) C hW hS ho0 flX4_32 dX4_follow_5 (fun H locs hW hS => ?_)
  refine lv_iconst (v := (0 : Int32)) hx0 hb dX4_follow_8 (by decide) ?_
  refine lv_istore_n (lv' := [(3, .int (0 : Int32)), (0, .ref (b + o0)), (1, .ref (b + o1)), (2, .ref (b + o2))]) hx0 hb dX4_follow_9 rfl hl (by decide) rfl (fun ls hl => ?_)
  obtain ⟨q10, h10, h⟩ := bnd h
  try dsimp only at h
  refine bX4_follow_l10 C o0 o1 o2 ho0 ho1 ho2 (q := q10) ?_ FU (0 : Int32) (up σ o0 5 v2) h10 _ _ _ hW hS (lv_sub hl [1, 2, 3, 0] rfl)
  intro H locs ls hW hS hl
  cases h
  exact w_vret C hW hS dX4_follow_110
def fX4_firstOf (o0 : Nat) (x1 : Int32) (σ : Mem) : Option Int32 :=
  (fX3_at (o0 + 1) x1 σ).bind fun v5 => some v5
set_option maxRecDepth 100000 in
set_option maxHeartbeats 4000000 in
theorem mX4_firstOf {l : Launch} {E : Ev} {b : Nat} (o0 : Nat) (x1 : Int32) (ho0 : kd o0 = 4) (σ : Mem) (r : Int32) (h : fX4_firstOf o0 x1 σ = some r) : Met l yX4_firstOf (tw yX4_firstOf cX4_firstOf 2 (some .int)) { frames := 1, cells := 0, slots := 0, locals := 21 } (va_Pc [.ref (b + o0), .int x1] (Pr l E (LC E b) σ)) (Qz E (LC E b) (some (.int r)) σ) 0 0 (La (LC E b)) := by
  refine ct_of (by decide) (Nat.le_of_ble_eq_true rfl) ?_
  intro p e s m below meth c C hW hS ls hl
  have hx0 := C.1
  have hb := C.2.1
  have hl : lv_has ls 2 [(0, .ref (b + o0)), (1, .int x1)] := hl
  unfold fX4_firstOf at h
  refine lv_aload_n hx0 hb dX4_firstOf_0 rfl (lv_at hl 0 rfl) ?_
  refine gtX4_0 (k := o0) C hW ho0 flX4_14 dX4_firstOf_1 ?_
  refine lv_iload_n hx0 hb dX4_firstOf_4 rfl (lv_at hl 1 rfl) ?_
  obtain ⟨v5, h5, h⟩ := bnd h
  try dsimp only at h
  refine w_callV (L := (LC E b)) (k := o0 + 1) (As := [.int x1]) (rest := []) C hW hS (kdlt (chX4_0 ho0) (by decide)) (ccX3 (chX4_0 ho0)) kcX3 (mX3_at (o0 + 1) x1 (chX4_0 ho0) σ v5 h5) cwX3_at cvX3_at rfl mlX4_68 ⟨by decide, by decide⟩ rfl hl.1 (Nat.le_of_ble_eq_true rfl) ⟨by decide, by decide⟩ dX4_firstOf_5 rfl (fun H locs hW hS => ?_)
  cases h
  exact w_iret C hW hS dX4_firstOf_8
def fX4_secondOf (o0 : Nat) (x1 : Int32) (σ : Mem) : Option Int32 :=
  (fX3_at (o0 + 3) x1 σ).bind fun v5 => some v5
set_option maxRecDepth 100000 in
set_option maxHeartbeats 4000000 in
theorem mX4_secondOf {l : Launch} {E : Ev} {b : Nat} (o0 : Nat) (x1 : Int32) (ho0 : kd o0 = 4) (σ : Mem) (r : Int32) (h : fX4_secondOf o0 x1 σ = some r) : Met l yX4_secondOf (tw yX4_secondOf cX4_secondOf 2 (some .int)) { frames := 1, cells := 0, slots := 0, locals := 21 } (va_Pc [.ref (b + o0), .int x1] (Pr l E (LC E b) σ)) (Qz E (LC E b) (some (.int r)) σ) 0 0 (La (LC E b)) := by
  refine ct_of (by decide) (Nat.le_of_ble_eq_true rfl) ?_
  intro p e s m below meth c C hW hS ls hl
  have hx0 := C.1
  have hb := C.2.1
  have hl : lv_has ls 2 [(0, .ref (b + o0)), (1, .int x1)] := hl
  unfold fX4_secondOf at h
  refine lv_aload_n hx0 hb dX4_secondOf_0 rfl (lv_at hl 0 rfl) ?_
  refine gtX4_1 (k := o0) C hW ho0 flX4_20 dX4_secondOf_1 ?_
  refine lv_iload_n hx0 hb dX4_secondOf_4 rfl (lv_at hl 1 rfl) ?_
  obtain ⟨v5, h5, h⟩ := bnd h
  try dsimp only at h
  refine w_callV (L := (LC E b)) (k := o0 + 3) (As := [.int x1]) (rest := []) C hW hS (kdlt (chX4_1 ho0) (by decide)) (ccX3 (chX4_1 ho0)) kcX3 (mX3_at (o0 + 3) x1 (chX4_1 ho0) σ v5 h5) cwX3_at cvX3_at rfl mlX4_68 ⟨by decide, by decide⟩ rfl hl.1 (Nat.le_of_ble_eq_true rfl) ⟨by decide, by decide⟩ dX4_secondOf_5 rfl (fun H locs hW hS => ?_)
  cases h
  exact w_iret C hW hS dX4_secondOf_8
def fX4_isPlaced (o0 : Nat) (x1 : Int32) (σ : Mem) : Option Int32 :=
  (fX3_at (o0 + 1) x1 σ).bind fun v5 => if v5 = (-1 : Int32) then (some (0 : Int32)) else (some (1 : Int32))
set_option maxRecDepth 100000 in
set_option maxHeartbeats 4000000 in
theorem mX4_isPlaced {l : Launch} {E : Ev} {b : Nat} (o0 : Nat) (x1 : Int32) (ho0 : kd o0 = 4) (σ : Mem) (r : Int32) (h : fX4_isPlaced o0 x1 σ = some r) : Met l yX4_isPlaced (tw yX4_isPlaced cX4_isPlaced 2 (some .boolean)) { frames := 1, cells := 0, slots := 0, locals := 21 } (va_Pc [.ref (b + o0), .int x1] (Pr l E (LC E b) σ)) (Qz E (LC E b) (some (.int r)) σ) 0 0 (La (LC E b)) := by
  refine ct_of (by decide) (Nat.le_of_ble_eq_true rfl) ?_
  intro p e s m below meth c C hW hS ls hl
  have hx0 := C.1
  have hb := C.2.1
  have hl : lv_has ls 2 [(0, .ref (b + o0)), (1, .int x1)] := hl
  unfold fX4_isPlaced at h
  refine lv_aload_n hx0 hb dX4_isPlaced_0 rfl (lv_at hl 0 rfl) ?_
  refine gtX4_0 (k := o0) C hW ho0 flX4_14 dX4_isPlaced_1 ?_
  refine lv_iload_n hx0 hb dX4_isPlaced_4 rfl (lv_at hl 1 rfl) ?_
  obtain ⟨v5, h5, h⟩ := bnd h
  try dsimp only at h
  refine w_callV (L := (LC E b)) (k := o0 + 1) (As := [.int x1]) (rest := []) C hW hS (kdlt (chX4_0 ho0) (by decide)) (ccX3 (chX4_0 ho0)) kcX3 (mX3_at (o0 + 1) x1 (chX4_0 ho0) σ v5 h5) cwX3_at cvX3_at rfl mlX4_68 ⟨by decide, by decide⟩ rfl hl.1 (Nat.le_of_ble_eq_true rfl) ⟨by decide, by decide⟩ dX4_isPlaced_5 rfl (fun H locs hW hS => ?_)
  refine lv_iconst (v := (-1 : Int32)) hx0 hb dX4_isPlaced_8 (by decide) ?_
  refine lv_icmp_eq (tgt := 16) hx0 hb dX4_isPlaced_9 (by decide) (fun c9 => ?_) (fun c9 => ?_)
  · rw [if_pos c9] at h
    refine lv_iconst (v := (0 : Int32)) hx0 hb dX4_isPlaced_16 (by decide) ?_
    cases h
    exact w_zret C hW hS (Or.inl rfl) dX4_isPlaced_17
  · rw [if_neg c9] at h
    refine lv_iconst (v := (1 : Int32)) hx0 hb dX4_isPlaced_12 (by decide) ?_
    refine lv_goto (tgt := 17) hx0 hb dX4_isPlaced_13 (by decide) ?_
    cases h
    exact w_zret C hW hS (Or.inr rfl) dX4_isPlaced_17
def fX4_countShowing_l4 (o0 : Nat) (x1 : Int32) : Nat → Int32 → Int32 → Mem → Option (Int32 × Int32)
  | 0, _, _, _ => none
  | n + 1, x2, x3, σ => if (σ o0 5) ≤ x3 then (some (x2, x3)) else ((fX3_at (o0 + 1) x3 σ).bind fun v17 => if v17 = x1 then (fX4_countShowing_l4 o0 x1 n (x2 + (1 : Int32)) (x3 + (1 : Int32)) σ) else ((fX3_at (o0 + 3) x3 σ).bind fun v29 => if v29 = x1 then (fX4_countShowing_l4 o0 x1 n (x2 + (1 : Int32)) (x3 + (1 : Int32)) σ) else (fX4_countShowing_l4 o0 x1 n x2 (x3 + (1 : Int32)) σ)))
set_option maxRecDepth 100000 in
set_option maxHeartbeats 4000000 in
theorem bX4_countShowing_l4 {p : Program} {l : Launch} {e : Env} {s : State} {m : MethodId} {args : Array Value} {below : List Frame} {meth : Method} {c : Code} {E : Ev} {b : Nat} (C : Cx p l s m args meth c E cX4_countShowing 4 RX4 (some .int)) (o0 : Nat) (x1 : Int32) (ho0 : kd o0 = 4) (σ : Mem) {Qf : State → Prop} {q : Int32 × Int32} (hx : ∀ H locs ls, Wd E (LC E b) σ H → va_S (La (LC E b)) s.heap H locs → lv_has ls 4 [(0, .ref (b + o0)), (1, .int x1), (2, .int q.1), (3, .int q.2)] → W p l e { frames := 1, cells := 0, slots := 0, locals := 21 } s m args below meth c H locs 0 0 Qf (F0 m 45 ls [])) : ∀ (n : Nat) (x2 : Int32) (x3 : Int32), fX4_countShowing_l4 o0 x1 n x2 x3 σ = some q → ∀ (H : Heap) (locs : List Loc) (ls : Array Slot), Wd E (LC E b) σ H → va_S (La (LC E b)) s.heap H locs → lv_has ls 4 [(0, .ref (b + o0)), (1, .int x1), (2, .int x2), (3, .int x3)] → W p l e { frames := 1, cells := 0, slots := 0, locals := 21 } s m args below meth c H locs 0 0 Qf (F0 m 4 ls []) := by
  have hx0 := C.1
  have hb := C.2.1
  intro n
  induction n with
  | zero => intro x2 x3 h; simp [fX4_countShowing_l4] at h
  | succ n ih =>
    intro x2 x3 h H locs ls hW hS hl
    unfold fX4_countShowing_l4 at h
    refine lv_iload_n hx0 hb dX4_countShowing_4 rfl (lv_at hl 3 rfl) ?_
    refine lv_aload_n hx0 hb dX4_countShowing_5 rfl (lv_at hl 0 rfl) ?_
    refine gtX4_5 (k := o0) C hW ho0 flX4_32 dX4_countShowing_6 ?_
    refine lv_icmp_ge (tgt := 45) hx0 hb dX4_countShowing_9 (by decide) (fun c9 => ?_) (fun c9 => ?_)
    · rw [if_pos c9] at h
      cases h
      exact hx _ _ _ hW hS (lv_sub hl [0, 1, 2, 3] rfl)
    · rw [if_neg c9] at h
      refine lv_aload_n hx0 hb dX4_countShowing_12 rfl (lv_at hl 0 rfl) ?_
      refine gtX4_0 (k := o0) C hW ho0 flX4_14 dX4_countShowing_13 ?_
      refine lv_iload_n hx0 hb dX4_countShowing_16 rfl (lv_at hl 3 rfl) ?_
      obtain ⟨v17, h17, h⟩ := bnd h
      try dsimp only at h
      refine w_callV (L := (LC E b)) (k := o0 + 1) (As := [.int x3]) (rest := []) C hW hS (kdlt (chX4_0 ho0) (by decide)) (ccX3 (chX4_0 ho0)) kcX3 (mX3_at (o0 + 1) x3 (chX4_0 ho0) σ v17 h17) cwX3_at cvX3_at rfl mlX4_68 ⟨by decide, by decide⟩ rfl hl.1 (Nat.le_of_ble_eq_true rfl) ⟨by decide, by decide⟩ dX4_countShowing_17 rfl (fun H locs hW hS => ?_)
      refine lv_iload_n hx0 hb dX4_countShowing_20 rfl (lv_at hl 1 rfl) ?_
      refine lv_icmp_eq (tgt := 36) hx0 hb dX4_countShowing_21 (by decide) (fun c21 => ?_) (fun c21 => ?_)
      · rw [if_pos c21] at h
        refine lv_iinc (v := x2 + (1 : Int32)) (lv' := [(2, .int (x2 + (1 : Int32))), (0, .ref (b + o0)), (1, .int x1), (3, .int x3)]) hx0 hb dX4_countShowing_36 hl (k := 2) rfl rfl (by decide) rfl (fun ls hl => ?_)
        refine lv_iinc (v := x3 + (1 : Int32)) (lv' := [(3, .int (x3 + (1 : Int32))), (2, .int (x2 + (1 : Int32))), (0, .ref (b + o0)), (1, .int x1)]) hx0 hb dX4_countShowing_39 hl (k := 3) rfl rfl (by decide) rfl (fun ls hl => ?_)
        refine lv_goto (tgt := 4) hx0 hb dX4_countShowing_42 (by decide) ?_
        exact ih (x2 + (1 : Int32)) (x3 + (1 : Int32)) h _ _ _ hW hS (lv_sub hl [2, 3, 1, 0] rfl)
      · rw [if_neg c21] at h
        refine lv_aload_n hx0 hb dX4_countShowing_24 rfl (lv_at hl 0 rfl) ?_
        refine gtX4_1 (k := o0) C hW ho0 flX4_20 dX4_countShowing_25 ?_
        refine lv_iload_n hx0 hb dX4_countShowing_28 rfl (lv_at hl 3 rfl) ?_
        obtain ⟨v29, h29, h⟩ := bnd h
        try dsimp only at h
        refine w_callV (L := (LC E b)) (k := o0 + 3) (As := [.int x3]) (rest := []) C hW hS (kdlt (chX4_1 ho0) (by decide)) (ccX3 (chX4_1 ho0)) kcX3 (mX3_at (o0 + 3) x3 (chX4_1 ho0) σ v29 h29) cwX3_at cvX3_at rfl mlX4_68 ⟨by decide, by decide⟩ rfl hl.1 (Nat.le_of_ble_eq_true rfl) ⟨by decide, by decide⟩ dX4_countShowing_29 rfl (fun H locs hW hS => ?_)
        refine lv_iload_n hx0 hb dX4_countShowing_32 rfl (lv_at hl 1 rfl) ?_
        refine lv_icmp_ne (tgt := 39) hx0 hb dX4_countShowing_33 (by decide) (fun c33 => ?_) (fun c33 => ?_)
        · rw [if_neg c33] at h
          refine lv_iinc (v := x3 + (1 : Int32)) (lv' := [(3, .int (x3 + (1 : Int32))), (0, .ref (b + o0)), (1, .int x1), (2, .int x2)]) hx0 hb dX4_countShowing_39 hl (k := 3) rfl rfl (by decide) rfl (fun ls hl => ?_)
          refine lv_goto (tgt := 4) hx0 hb dX4_countShowing_42 (by decide) ?_
          exact ih x2 (x3 + (1 : Int32)) h _ _ _ hW hS (lv_sub hl [1, 2, 3, 0] rfl)
        · rw [if_pos c33] at h
          refine lv_iinc (v := x2 + (1 : Int32)) (lv' := [(2, .int (x2 + (1 : Int32))), (0, .ref (b + o0)), (1, .int x1), (3, .int x3)]) hx0 hb dX4_countShowing_36 hl (k := 2) rfl rfl (by decide) rfl (fun ls hl => ?_)
          refine lv_iinc (v := x3 + (1 : Int32)) (lv' := [(3, .int (x3 + (1 : Int32))), (2, .int (x2 + (1 : Int32))), (0, .ref (b + o0)), (1, .int x1)]) hx0 hb dX4_countShowing_39 hl (k := 3) rfl rfl (by decide) rfl (fun ls hl => ?_)
          refine lv_goto (tgt := 4) hx0 hb dX4_countShowing_42 (by decide) ?_
          exact ih (x2 + (1 : Int32)) (x3 + (1 : Int32)) h _ _ _ hW hS (lv_sub hl [2, 3, 1, 0] rfl)
def fX4_countShowing (o0 : Nat) (x1 : Int32) (σ : Mem) : Option Int32 :=
  (fX4_countShowing_l4 o0 x1 FU (0 : Int32) (0 : Int32) σ).bind fun q4 => some q4.1
set_option maxRecDepth 100000 in
set_option maxHeartbeats 4000000 in
theorem mX4_countShowing {l : Launch} {E : Ev} {b : Nat} (o0 : Nat) (x1 : Int32) (ho0 : kd o0 = 4) (σ : Mem) (r : Int32) (h : fX4_countShowing o0 x1 σ = some r) : Met l yX4_countShowing (tw yX4_countShowing cX4_countShowing 4 (some .int)) { frames := 1, cells := 0, slots := 0, locals := 21 } (va_Pc [.ref (b + o0), .int x1] (Pr l E (LC E b) σ)) (Qz E (LC E b) (some (.int r)) σ) 0 0 (La (LC E b)) := by
  refine ct_of (by decide) (Nat.le_of_ble_eq_true rfl) ?_
  intro p e s m below meth c C hW hS ls hl
  have hx0 := C.1
  have hb := C.2.1
  have hl : lv_has ls 4 [(0, .ref (b + o0)), (1, .int x1)] := hl
  unfold fX4_countShowing at h
  refine lv_iconst (v := (0 : Int32)) hx0 hb dX4_countShowing_0 (by decide) ?_
  refine lv_istore_n (lv' := [(2, .int (0 : Int32)), (0, .ref (b + o0)), (1, .int x1)]) hx0 hb dX4_countShowing_1 rfl hl (by decide) rfl (fun ls hl => ?_)
  refine lv_iconst (v := (0 : Int32)) hx0 hb dX4_countShowing_2 (by decide) ?_
  refine lv_istore_n (lv' := [(3, .int (0 : Int32)), (2, .int (0 : Int32)), (0, .ref (b + o0)), (1, .int x1)]) hx0 hb dX4_countShowing_3 rfl hl (by decide) rfl (fun ls hl => ?_)
  obtain ⟨q4, h4, h⟩ := bnd h
  try dsimp only at h
  refine bX4_countShowing_l4 C o0 x1 ho0 σ (q := q4) ?_ FU (0 : Int32) (0 : Int32) h4 _ _ _ hW hS (lv_sub hl [2, 3, 1, 0] rfl)
  intro H locs ls hW hS hl
  refine lv_iload_n hx0 hb dX4_countShowing_45 rfl (lv_at hl 2 rfl) ?_
  cases h
  exact w_iret C hW hS dX4_countShowing_46
def fX4_addCover (o0 : Nat) (x1 : Int32) (x2 : Int32) (σ : Mem) : Option Mem :=
  (fX3_at (o0 + 1) x1 σ).bind fun v5 => (fX3_at (o0 + 3) x1 σ).bind fun v14 => (fX3_at (o0 + 5) v5 σ).bind fun v29 => (fX3_put (o0 + 5) v5 (v29 + x2) σ).bind fun v34 => (fX3_at (o0 + 5) v14 v34).bind fun v49 => (fX3_put (o0 + 5) v14 (v49 + x2) v34).bind fun v54 => some v54
set_option maxRecDepth 100000 in
set_option maxHeartbeats 4000000 in
theorem mX4_addCover {l : Launch} {E : Ev} {b : Nat} (o0 : Nat) (x1 : Int32) (x2 : Int32) (ho0 : kd o0 = 4) (σ : Mem) (r : Mem) (h : fX4_addCover o0 x1 x2 σ = some r) : Met l yX4_addCover (tw yX4_addCover cX4_addCover 5 none) { frames := 1, cells := 0, slots := 0, locals := 22 } (va_Pc [.ref (b + o0), .int x1, .int x2] (Pr l E (LC E b) σ)) (Qz E (LC E b) none r) 0 0 (La (LC E b)) := by
  refine ct_of (by decide) (Nat.le_of_ble_eq_true rfl) ?_
  intro p e s m below meth c C hW hS ls hl
  have hx0 := C.1
  have hb := C.2.1
  have hl : lv_has ls 5 [(0, .ref (b + o0)), (1, .int x1), (2, .int x2)] := hl
  unfold fX4_addCover at h
  refine lv_aload_n hx0 hb dX4_addCover_0 rfl (lv_at hl 0 rfl) ?_
  refine gtX4_0 (k := o0) C hW ho0 flX4_14 dX4_addCover_1 ?_
  refine lv_iload_n hx0 hb dX4_addCover_4 rfl (lv_at hl 1 rfl) ?_
  obtain ⟨v5, h5, h⟩ := bnd h
  try dsimp only at h
  refine w_callV (L := (LC E b)) (k := o0 + 1) (As := [.int x1]) (rest := []) C hW hS (kdlt (chX4_0 ho0) (by decide)) (ccX3 (chX4_0 ho0)) kcX3 (mX3_at (o0 + 1) x1 (chX4_0 ho0) σ v5 h5) cwX3_at cvX3_at rfl mlX4_68 ⟨by decide, by decide⟩ rfl hl.1 (Nat.le_of_ble_eq_true rfl) ⟨by decide, by decide⟩ dX4_addCover_5 rfl (fun H locs hW hS => ?_)
  refine lv_istore_n (lv' := [(3, .int v5), (0, .ref (b + o0)), (1, .int x1), (2, .int x2)]) hx0 hb dX4_addCover_8 rfl hl (by decide) rfl (fun ls hl => ?_)
  refine lv_aload_n hx0 hb dX4_addCover_9 rfl (lv_at hl 1 rfl) ?_
  refine gtX4_1 (k := o0) C hW ho0 flX4_20 dX4_addCover_10 ?_
  refine lv_iload_n hx0 hb dX4_addCover_13 rfl (lv_at hl 2 rfl) ?_
  obtain ⟨v14, h14, h⟩ := bnd h
  try dsimp only at h
  refine w_callV (L := (LC E b)) (k := o0 + 3) (As := [.int x1]) (rest := []) C hW hS (kdlt (chX4_1 ho0) (by decide)) (ccX3 (chX4_1 ho0)) kcX3 (mX3_at (o0 + 3) x1 (chX4_1 ho0) σ v14 h14) cwX3_at cvX3_at rfl mlX4_68 ⟨by decide, by decide⟩ rfl hl.1 (Nat.le_of_ble_eq_true rfl) ⟨by decide, by decide⟩ dX4_addCover_14 rfl (fun H locs hW hS => ?_)
  refine lv_istore (lv' := [(4, .int v14), (3, .int v5), (0, .ref (b + o0)), (1, .int x1), (2, .int x2)]) hx0 hb dX4_addCover_17 hl (by decide) rfl (fun ls hl => ?_)
  refine lv_aload_n hx0 hb dX4_addCover_19 rfl (lv_at hl 2 rfl) ?_
  refine gtX4_2 (k := o0) C hW ho0 flX4_23 dX4_addCover_20 ?_
  refine lv_iload_n hx0 hb dX4_addCover_23 rfl (lv_at hl 1 rfl) ?_
  refine lv_aload_n hx0 hb dX4_addCover_24 rfl (lv_at hl 2 rfl) ?_
  refine gtX4_2 (k := o0) C hW ho0 flX4_23 dX4_addCover_25 ?_
  refine lv_iload_n hx0 hb dX4_addCover_28 rfl (lv_at hl 1 rfl) ?_
  obtain ⟨v29, h29, h⟩ := bnd h
  try dsimp only at h
  refine w_callV (L := (LC E b)) (k := o0 + 5) (As := [.int v5]) (rest := [.int v5, .ref (b + (o0 + 5))]) C hW hS (kdlt (chX4_2 ho0) (by decide)) (ccX3 (chX4_2 ho0)) kcX3 (mX3_at (o0 + 5) v5 (chX4_2 ho0) σ v29 h29) cwX3_at cvX3_at rfl mlX4_68 ⟨by decide, by decide⟩ rfl hl.1 (Nat.le_of_ble_eq_true rfl) ⟨by decide, by decide⟩ dX4_addCover_29 rfl (fun H locs hW hS => ?_)
  refine lv_iload_n hx0 hb dX4_addCover_32 rfl (lv_at hl 4 rfl) ?_
  refine lv_iadd hx0 hb dX4_addCover_33 ?_
  obtain ⟨v34, h34, h⟩ := bnd h
  try dsimp only at h
  refine w_callV (L := (LC E b)) (k := o0 + 5) (As := [.int v5, .int (v29 + x2)]) (rest := []) C hW hS (kdlt (chX4_2 ho0) (by decide)) (ccX3 (chX4_2 ho0)) kcX3 (mX3_put (o0 + 5) v5 (v29 + x2) (chX4_2 ho0) σ v34 h34) cwX3_put cvX3_put rfl mlX4_64 ⟨by decide, by decide⟩ rfl hl.1 (Nat.le_of_ble_eq_true rfl) ⟨by decide, by decide⟩ dX4_addCover_34 rfl (fun H locs hW hS => ?_)
  refine lv_aload_n hx0 hb dX4_addCover_37 rfl (lv_at hl 2 rfl) ?_
  refine gtX4_2 (k := o0) C hW ho0 flX4_23 dX4_addCover_38 ?_
  refine lv_iload hx0 hb dX4_addCover_41 (lv_at hl 0 rfl) ?_
  refine lv_aload_n hx0 hb dX4_addCover_43 rfl (lv_at hl 2 rfl) ?_
  refine gtX4_2 (k := o0) C hW ho0 flX4_23 dX4_addCover_44 ?_
  refine lv_iload hx0 hb dX4_addCover_47 (lv_at hl 0 rfl) ?_
  obtain ⟨v49, h49, h⟩ := bnd h
  try dsimp only at h
  refine w_callV (L := (LC E b)) (k := o0 + 5) (As := [.int v14]) (rest := [.int v14, .ref (b + (o0 + 5))]) C hW hS (kdlt (chX4_2 ho0) (by decide)) (ccX3 (chX4_2 ho0)) kcX3 (mX3_at (o0 + 5) v14 (chX4_2 ho0) v34 v49 h49) cwX3_at cvX3_at rfl mlX4_68 ⟨by decide, by decide⟩ rfl hl.1 (Nat.le_of_ble_eq_true rfl) ⟨by decide, by decide⟩ dX4_addCover_49 rfl (fun H locs hW hS => ?_)
  refine lv_iload_n hx0 hb dX4_addCover_52 rfl (lv_at hl 4 rfl) ?_
  refine lv_iadd hx0 hb dX4_addCover_53 ?_
  obtain ⟨v54, h54, h⟩ := bnd h
  try dsimp only at h
  refine w_callV (L := (LC E b)) (k := o0 + 5) (As := [.int v14, .int (v49 + x2)]) (rest := []) C hW hS (kdlt (chX4_2 ho0) (by decide)) (ccX3 (chX4_2 ho0)) kcX3 (mX3_put (o0 + 5) v14 (v49 + x2) (chX4_2 ho0) v34 v54 h54) cwX3_put cvX3_put rfl mlX4_64 ⟨by decide, by decide⟩ rfl hl.1 (Nat.le_of_ble_eq_true rfl) ⟨by decide, by decide⟩ dX4_addCover_54 rfl (fun H locs hW hS => ?_)
  cases h
  exact w_vret C hW hS dX4_addCover_57
def fX4_isCoveredTwice (o0 : Nat) (x1 : Int32) (σ : Mem) : Option Int32 :=
  if x1 = (-1 : Int32) then (some (1 : Int32)) else ((fX3_at (o0 + 5) x1 σ).bind fun v10 => if v10 ≤ (1 : Int32) then (some (0 : Int32)) else (some (1 : Int32)))
set_option maxRecDepth 100000 in
set_option maxHeartbeats 4000000 in
theorem mX4_isCoveredTwice {l : Launch} {E : Ev} {b : Nat} (o0 : Nat) (x1 : Int32) (ho0 : kd o0 = 4) (σ : Mem) (r : Int32) (h : fX4_isCoveredTwice o0 x1 σ = some r) : Met l yX4_isCoveredTwice (tw yX4_isCoveredTwice cX4_isCoveredTwice 2 (some .boolean)) { frames := 1, cells := 0, slots := 0, locals := 21 } (va_Pc [.ref (b + o0), .int x1] (Pr l E (LC E b) σ)) (Qz E (LC E b) (some (.int r)) σ) 0 0 (La (LC E b)) := by
  refine ct_of (by decide) (Nat.le_of_ble_eq_true rfl) ?_
  intro p e s m below meth c C hW hS ls hl
  have hx0 := C.1
  have hb := C.2.1
  have hl : lv_has ls 2 [(0, .ref (b + o0)), (1, .int x1)] := hl
  unfold fX4_isCoveredTwice at h
  refine lv_iload_n hx0 hb dX4_isCoveredTwice_0 rfl (lv_at hl 1 rfl) ?_
  refine lv_iconst (v := (-1 : Int32)) hx0 hb dX4_isCoveredTwice_1 (by decide) ?_
  refine lv_icmp_eq (tgt := 17) hx0 hb dX4_isCoveredTwice_2 (by decide) (fun c2 => ?_) (fun c2 => ?_)
  · rw [if_pos c2] at h
    refine lv_iconst (v := (1 : Int32)) hx0 hb dX4_isCoveredTwice_17 (by decide) ?_
    refine lv_goto (tgt := 22) hx0 hb dX4_isCoveredTwice_18 (by decide) ?_
    cases h
    exact w_zret C hW hS (Or.inr rfl) dX4_isCoveredTwice_22
  · rw [if_neg c2] at h
    refine lv_aload_n hx0 hb dX4_isCoveredTwice_5 rfl (lv_at hl 0 rfl) ?_
    refine gtX4_2 (k := o0) C hW ho0 flX4_23 dX4_isCoveredTwice_6 ?_
    refine lv_iload_n hx0 hb dX4_isCoveredTwice_9 rfl (lv_at hl 1 rfl) ?_
    obtain ⟨v10, h10, h⟩ := bnd h
    try dsimp only at h
    refine w_callV (L := (LC E b)) (k := o0 + 5) (As := [.int x1]) (rest := []) C hW hS (kdlt (chX4_2 ho0) (by decide)) (ccX3 (chX4_2 ho0)) kcX3 (mX3_at (o0 + 5) x1 (chX4_2 ho0) σ v10 h10) cwX3_at cvX3_at rfl mlX4_68 ⟨by decide, by decide⟩ rfl hl.1 (Nat.le_of_ble_eq_true rfl) ⟨by decide, by decide⟩ dX4_isCoveredTwice_10 rfl (fun H locs hW hS => ?_)
    refine lv_iconst (v := (1 : Int32)) hx0 hb dX4_isCoveredTwice_13 (by decide) ?_
    refine lv_icmp_le (tgt := 21) hx0 hb dX4_isCoveredTwice_14 (by decide) (fun c14 => ?_) (fun c14 => ?_)
    · rw [if_pos c14] at h
      refine lv_iconst (v := (0 : Int32)) hx0 hb dX4_isCoveredTwice_21 (by decide) ?_
      cases h
      exact w_zret C hW hS (Or.inl rfl) dX4_isCoveredTwice_22
    · rw [if_neg c14] at h
      refine lv_iconst (v := (1 : Int32)) hx0 hb dX4_isCoveredTwice_17 (by decide) ?_
      refine lv_goto (tgt := 22) hx0 hb dX4_isCoveredTwice_18 (by decide) ?_
      cases h
      exact w_zret C hW hS (Or.inr rfl) dX4_isCoveredTwice_22
def fX4_countNeedless_l10 (o0 : Nat) : Nat → Int32 → Mem → Option (Int32 × Mem)
  | 0, _, _ => none
  | n + 1, x1, σ => if (σ o0 5) ≤ x1 then (some (x1, σ)) else ((fX4_addCover o0 x1 (1 : Int32) σ).bind fun v21 => fX4_countNeedless_l10 o0 n (x1 + (1 : Int32)) v21)
set_option maxRecDepth 100000 in
set_option maxHeartbeats 4000000 in
theorem bX4_countNeedless_l10 {p : Program} {l : Launch} {e : Env} {s : State} {m : MethodId} {args : Array Value} {below : List Frame} {meth : Method} {c : Code} {E : Ev} {b : Nat} (C : Cx p l s m args meth c E cX4_countNeedless 3 RX4 (some .int)) (o0 : Nat) (ho0 : kd o0 = 4) {Qf : State → Prop} {q : Int32 × Mem} (hx : ∀ H locs ls, Wd E (LC E b) q.2 H → va_S (La (LC E b)) s.heap H locs → lv_has ls 3 [(0, .ref (b + o0)), (1, .int q.1)] → W p l e { frames := 2, cells := 0, slots := 0, locals := 46 } s m args below meth c H locs 0 0 Qf (F0 m 30 ls [])) : ∀ (n : Nat) (x1 : Int32) (σ : Mem), fX4_countNeedless_l10 o0 n x1 σ = some q → ∀ (H : Heap) (locs : List Loc) (ls : Array Slot), Wd E (LC E b) σ H → va_S (La (LC E b)) s.heap H locs → lv_has ls 3 [(0, .ref (b + o0)), (1, .int x1)] → W p l e { frames := 2, cells := 0, slots := 0, locals := 46 } s m args below meth c H locs 0 0 Qf (F0 m 10 ls []) := by
  have hx0 := C.1
  have hb := C.2.1
  intro n
  induction n with
  | zero => intro x1 σ h; simp [fX4_countNeedless_l10] at h
  | succ n ih =>
    intro x1 σ h H locs ls hW hS hl
    unfold fX4_countNeedless_l10 at h
    refine lv_iload_n hx0 hb dX4_countNeedless_10 rfl (lv_at hl 1 rfl) ?_
    refine lv_aload_n hx0 hb dX4_countNeedless_11 rfl (lv_at hl 0 rfl) ?_
    refine gtX4_5 (k := o0) C hW ho0 flX4_32 dX4_countNeedless_12 ?_
    refine lv_icmp_ge (tgt := 30) hx0 hb dX4_countNeedless_15 (by decide) (fun c15 => ?_) (fun c15 => ?_)
    · rw [if_pos c15] at h
      cases h
      exact hx _ _ _ hW hS (lv_sub hl [0, 1] rfl)
    · rw [if_neg c15] at h
      refine lv_aload_n hx0 hb dX4_countNeedless_18 rfl (lv_at hl 0 rfl) ?_
      refine lv_iload_n hx0 hb dX4_countNeedless_19 rfl (lv_at hl 1 rfl) ?_
      refine lv_iconst (v := (1 : Int32)) hx0 hb dX4_countNeedless_20 (by decide) ?_
      obtain ⟨v21, h21, h⟩ := bnd h
      try dsimp only at h
      refine w_callV (L := (LC E b)) (k := o0) (As := [.int x1, .int (1 : Int32)]) (rest := []) C hW hS (kdlt ho0 (by decide)) (ccX4 ho0) kcX4 (mX4_addCover o0 x1 (1 : Int32) ho0 σ v21 h21) cwX4_addCover cvX4_addCover rfl mlX4_74 ⟨by decide, by decide⟩ rfl hl.1 (Nat.le_of_ble_eq_true rfl) ⟨by decide, by decide⟩ dX4_countNeedless_21 rfl (fun H locs hW hS => ?_)
      refine lv_iinc (v := x1 + (1 : Int32)) (lv' := [(1, .int (x1 + (1 : Int32))), (0, .ref (b + o0))]) hx0 hb dX4_countNeedless_24 hl (k := 1) rfl rfl (by decide) rfl (fun ls hl => ?_)
      refine lv_goto (tgt := 10) hx0 hb dX4_countNeedless_27 (by decide) ?_
      exact ih (x1 + (1 : Int32)) v21 h _ _ _ hW hS (lv_sub hl [1, 0] rfl)
def fX4_countNeedless_l39 (o0 : Nat) : Nat → Int32 → Int32 → Mem → Option (Int32 × Int32 × Mem)
  | 0, _, _, _ => none
  | n + 1, x1, x2, σ => if x2 < 0 then (some (x1, x2, σ)) else ((fX3_at (o0 + 1) x2 σ).bind fun v49 => (fX4_isCoveredTwice o0 v49 σ).bind fun v52 => if v52 = 0 then (fX4_countNeedless_l39 o0 n x1 (x2 + (-1 : Int32)) σ) else ((fX3_at (o0 + 3) x2 σ).bind fun v64 => (fX4_isCoveredTwice o0 v64 σ).bind fun v67 => if v67 = 0 then (fX4_countNeedless_l39 o0 n x1 (x2 + (-1 : Int32)) σ) else ((fX4_addCover o0 x2 (-1 : Int32) σ).bind fun v76 => fX4_countNeedless_l39 o0 n (x1 + (1 : Int32)) (x2 + (-1 : Int32)) v76)))
set_option maxRecDepth 100000 in
set_option maxHeartbeats 4000000 in
theorem bX4_countNeedless_l39 {p : Program} {l : Launch} {e : Env} {s : State} {m : MethodId} {args : Array Value} {below : List Frame} {meth : Method} {c : Code} {E : Ev} {b : Nat} (C : Cx p l s m args meth c E cX4_countNeedless 3 RX4 (some .int)) (o0 : Nat) (ho0 : kd o0 = 4) {Qf : State → Prop} {q : Int32 × Int32 × Mem} (hx : ∀ H locs ls, Wd E (LC E b) q.2.2 H → va_S (La (LC E b)) s.heap H locs → lv_has ls 3 [(0, .ref (b + o0)), (1, .int q.1), (2, .int q.2.1)] → W p l e { frames := 2, cells := 0, slots := 0, locals := 46 } s m args below meth c H locs 0 0 Qf (F0 m 88 ls [])) : ∀ (n : Nat) (x1 : Int32) (x2 : Int32) (σ : Mem), fX4_countNeedless_l39 o0 n x1 x2 σ = some q → ∀ (H : Heap) (locs : List Loc) (ls : Array Slot), Wd E (LC E b) σ H → va_S (La (LC E b)) s.heap H locs → lv_has ls 3 [(0, .ref (b + o0)), (1, .int x1), (2, .int x2)] → W p l e { frames := 2, cells := 0, slots := 0, locals := 46 } s m args below meth c H locs 0 0 Qf (F0 m 39 ls []) := by
  have hx0 := C.1
  have hb := C.2.1
  intro n
  induction n with
  | zero => intro x1 x2 σ h; simp [fX4_countNeedless_l39] at h
  | succ n ih =>
    intro x1 x2 σ h H locs ls hW hS hl
    unfold fX4_countNeedless_l39 at h
    refine lv_iload_n hx0 hb dX4_countNeedless_39 rfl (lv_at hl 2 rfl) ?_
    refine lv_if_lt (tgt := 88) hx0 hb dX4_countNeedless_40 (by decide) (fun c40 => ?_) (fun c40 => ?_)
    · rw [if_pos c40] at h
      cases h
      exact hx _ _ _ hW hS (lv_sub hl [0, 1, 2] rfl)
    · rw [if_neg c40] at h
      refine lv_aload_n hx0 hb dX4_countNeedless_43 rfl (lv_at hl 0 rfl) ?_
      refine lv_aload_n hx0 hb dX4_countNeedless_44 rfl (lv_at hl 0 rfl) ?_
      refine gtX4_0 (k := o0) C hW ho0 flX4_14 dX4_countNeedless_45 ?_
      refine lv_iload_n hx0 hb dX4_countNeedless_48 rfl (lv_at hl 2 rfl) ?_
      obtain ⟨v49, h49, h⟩ := bnd h
      try dsimp only at h
      refine w_callV (L := (LC E b)) (k := o0 + 1) (As := [.int x2]) (rest := [.ref (b + o0)]) C hW hS (kdlt (chX4_0 ho0) (by decide)) (ccX3 (chX4_0 ho0)) kcX3 (mX3_at (o0 + 1) x2 (chX4_0 ho0) σ v49 h49) cwX3_at cvX3_at rfl mlX4_68 ⟨by decide, by decide⟩ rfl hl.1 (Nat.le_of_ble_eq_true rfl) ⟨by decide, by decide⟩ dX4_countNeedless_49 rfl (fun H locs hW hS => ?_)
      obtain ⟨v52, h52, h⟩ := bnd h
      try dsimp only at h
      refine w_callV (L := (LC E b)) (k := o0) (As := [.int v49]) (rest := []) C hW hS (kdlt ho0 (by decide)) (ccX4 ho0) kcX4 (mX4_isCoveredTwice o0 v49 ho0 σ v52 h52) cwX4_isCoveredTwice cvX4_isCoveredTwice rfl mlX4_77 ⟨by decide, by decide⟩ rfl hl.1 (Nat.le_of_ble_eq_true rfl) ⟨by decide, by decide⟩ dX4_countNeedless_52 rfl (fun H locs hW hS => ?_)
      refine lv_if_eq (tgt := 82) hx0 hb dX4_countNeedless_55 (by decide) (fun c55 => ?_) (fun c55 => ?_)
      · rw [if_pos c55] at h
        refine lv_iinc (v := x2 + (-1 : Int32)) (lv' := [(2, .int (x2 + (-1 : Int32))), (0, .ref (b + o0)), (1, .int x1)]) hx0 hb dX4_countNeedless_82 hl (k := 2) rfl rfl (by decide) rfl (fun ls hl => ?_)
        refine lv_goto (tgt := 39) hx0 hb dX4_countNeedless_85 (by decide) ?_
        exact ih x1 (x2 + (-1 : Int32)) σ h _ _ _ hW hS (lv_sub hl [1, 2, 0] rfl)
      · rw [if_neg c55] at h
        refine lv_aload_n hx0 hb dX4_countNeedless_58 rfl (lv_at hl 0 rfl) ?_
        refine lv_aload_n hx0 hb dX4_countNeedless_59 rfl (lv_at hl 0 rfl) ?_
        refine gtX4_1 (k := o0) C hW ho0 flX4_20 dX4_countNeedless_60 ?_
        refine lv_iload_n hx0 hb dX4_countNeedless_63 rfl (lv_at hl 2 rfl) ?_
        obtain ⟨v64, h64, h⟩ := bnd h
        try dsimp only at h
        refine w_callV (L := (LC E b)) (k := o0 + 3) (As := [.int x2]) (rest := [.ref (b + o0)]) C hW hS (kdlt (chX4_1 ho0) (by decide)) (ccX3 (chX4_1 ho0)) kcX3 (mX3_at (o0 + 3) x2 (chX4_1 ho0) σ v64 h64) cwX3_at cvX3_at rfl mlX4_68 ⟨by decide, by decide⟩ rfl hl.1 (Nat.le_of_ble_eq_true rfl) ⟨by decide, by decide⟩ dX4_countNeedless_64 rfl (fun H locs hW hS => ?_)
        obtain ⟨v67, h67, h⟩ := bnd h
        try dsimp only at h
        refine w_callV (L := (LC E b)) (k := o0) (As := [.int v64]) (rest := []) C hW hS (kdlt ho0 (by decide)) (ccX4 ho0) kcX4 (mX4_isCoveredTwice o0 v64 ho0 σ v67 h67) cwX4_isCoveredTwice cvX4_isCoveredTwice rfl mlX4_77 ⟨by decide, by decide⟩ rfl hl.1 (Nat.le_of_ble_eq_true rfl) ⟨by decide, by decide⟩ dX4_countNeedless_67 rfl (fun H locs hW hS => ?_)
        refine lv_if_eq (tgt := 82) hx0 hb dX4_countNeedless_70 (by decide) (fun c70 => ?_) (fun c70 => ?_)
        · rw [if_pos c70] at h
          refine lv_iinc (v := x2 + (-1 : Int32)) (lv' := [(2, .int (x2 + (-1 : Int32))), (0, .ref (b + o0)), (1, .int x1)]) hx0 hb dX4_countNeedless_82 hl (k := 2) rfl rfl (by decide) rfl (fun ls hl => ?_)
          refine lv_goto (tgt := 39) hx0 hb dX4_countNeedless_85 (by decide) ?_
          exact ih x1 (x2 + (-1 : Int32)) σ h _ _ _ hW hS (lv_sub hl [1, 2, 0] rfl)
        · rw [if_neg c70] at h
          refine lv_aload_n hx0 hb dX4_countNeedless_73 rfl (lv_at hl 0 rfl) ?_
          refine lv_iload_n hx0 hb dX4_countNeedless_74 rfl (lv_at hl 2 rfl) ?_
          refine lv_iconst (v := (-1 : Int32)) hx0 hb dX4_countNeedless_75 (by decide) ?_
          obtain ⟨v76, h76, h⟩ := bnd h
          try dsimp only at h
          refine w_callV (L := (LC E b)) (k := o0) (As := [.int x2, .int (-1 : Int32)]) (rest := []) C hW hS (kdlt ho0 (by decide)) (ccX4 ho0) kcX4 (mX4_addCover o0 x2 (-1 : Int32) ho0 σ v76 h76) cwX4_addCover cvX4_addCover rfl mlX4_74 ⟨by decide, by decide⟩ rfl hl.1 (Nat.le_of_ble_eq_true rfl) ⟨by decide, by decide⟩ dX4_countNeedless_76 rfl (fun H locs hW hS => ?_)
          refine lv_iinc (v := x1 + (1 : Int32)) (lv' := [(1, .int (x1 + (1 : Int32))), (0, .ref (b + o0)), (2, .int x2)]) hx0 hb dX4_countNeedless_79 hl (k := 1) rfl rfl (by decide) rfl (fun ls hl => ?_)
          refine lv_iinc (v := x2 + (-1 : Int32)) (lv' := [(2, .int (x2 + (-1 : Int32))), (1, .int (x1 + (1 : Int32))), (0, .ref (b + o0))]) hx0 hb dX4_countNeedless_82 hl (k := 2) rfl rfl (by decide) rfl (fun ls hl => ?_)
          refine lv_goto (tgt := 39) hx0 hb dX4_countNeedless_85 (by decide) ?_
          exact ih (x1 + (1 : Int32)) (x2 + (-1 : Int32)) v76 h _ _ _ hW hS (lv_sub hl [2, 1, 0] rfl)
def fX4_countNeedless (o0 : Nat) (σ : Mem) : Option (Int32 × Mem) :=
  (fX3_fill (o0 + 5) (0 : Int32) σ).bind fun v5 => (fX4_countNeedless_l10 o0 FU (0 : Int32) v5).bind fun q10 => (fX4_countNeedless_l39 o0 FU (0 : Int32) ((q10.2 o0 5) - (1 : Int32)) q10.2).bind fun q39 => some (q39.1, q39.2.2)
set_option maxRecDepth 100000 in
set_option maxHeartbeats 4000000 in
theorem mX4_countNeedless {l : Launch} {E : Ev} {b : Nat} (o0 : Nat) (ho0 : kd o0 = 4) (σ : Mem) (r : (Int32 × Mem)) (h : fX4_countNeedless o0 σ = some r) : Met l yX4_countNeedless (tw yX4_countNeedless cX4_countNeedless 3 (some .int)) { frames := 2, cells := 0, slots := 0, locals := 46 } (va_Pc [.ref (b + o0)] (Pr l E (LC E b) σ)) (Qz E (LC E b) (some (.int r.1)) r.2) 0 0 (La (LC E b)) := by
  refine ct_of (by decide) (Nat.le_of_ble_eq_true rfl) ?_
  intro p e s m below meth c C hW hS ls hl
  have hx0 := C.1
  have hb := C.2.1
  have hl : lv_has ls 3 [(0, .ref (b + o0))] := hl
  unfold fX4_countNeedless at h
  refine lv_aload_n hx0 hb dX4_countNeedless_0 rfl (lv_at hl 0 rfl) ?_
  refine gtX4_2 (k := o0) C hW ho0 flX4_23 dX4_countNeedless_1 ?_
  refine lv_iconst (v := (0 : Int32)) hx0 hb dX4_countNeedless_4 (by decide) ?_
  obtain ⟨v5, h5, h⟩ := bnd h
  try dsimp only at h
  refine w_callV (L := (LC E b)) (k := o0 + 5) (As := [.int (0 : Int32)]) (rest := []) C hW hS (kdlt (chX4_2 ho0) (by decide)) (ccX3 (chX4_2 ho0)) kcX3 (mX3_fill (o0 + 5) (0 : Int32) (chX4_2 ho0) σ v5 h5) cwX3_fill cvX3_fill rfl mlX4_71 ⟨by decide, by decide⟩ rfl hl.1 (Nat.le_of_ble_eq_true rfl) ⟨by decide, by decide⟩ dX4_countNeedless_5 rfl (fun H locs hW hS => ?_)
  refine lv_iconst (v := (0 : Int32)) hx0 hb dX4_countNeedless_8 (by decide) ?_
  refine lv_istore_n (lv' := [(1, .int (0 : Int32)), (0, .ref (b + o0))]) hx0 hb dX4_countNeedless_9 rfl hl (by decide) rfl (fun ls hl => ?_)
  obtain ⟨q10, h10, h⟩ := bnd h
  try dsimp only at h
  refine bX4_countNeedless_l10 C o0 ho0 (q := q10) ?_ FU (0 : Int32) v5 h10 _ _ _ hW hS (lv_sub hl [1, 0] rfl)
  intro H locs ls hW hS hl
  refine lv_iconst (v := (0 : Int32)) hx0 hb dX4_countNeedless_30 (by decide) ?_
  refine lv_istore_n (lv' := [(1, .int (0 : Int32)), (0, .ref (b + o0))]) hx0 hb dX4_countNeedless_31 rfl hl (by decide) rfl (fun ls hl => ?_)
  refine lv_aload_n hx0 hb dX4_countNeedless_32 rfl (lv_at hl 1 rfl) ?_
  refine gtX4_5 (k := o0) C hW ho0 flX4_32 dX4_countNeedless_33 ?_
  refine lv_iconst (v := (1 : Int32)) hx0 hb dX4_countNeedless_36 (by decide) ?_
  refine lv_isub hx0 hb dX4_countNeedless_37 ?_
  refine lv_istore_n (lv' := [(2, .int ((q10.2 o0 5) - (1 : Int32))), (1, .int (0 : Int32)), (0, .ref (b + o0))]) hx0 hb dX4_countNeedless_38 rfl hl (by decide) rfl (fun ls hl => ?_)
  obtain ⟨q39, h39, h⟩ := bnd h
  try dsimp only at h
  refine bX4_countNeedless_l39 C o0 ho0 (q := q39) ?_ FU (0 : Int32) ((q10.2 o0 5) - (1 : Int32)) q10.2 h39 _ _ _ hW hS (lv_sub hl [2, 1, 0] rfl)
  intro H locs ls hW hS hl
  refine lv_iload_n hx0 hb dX4_countNeedless_88 rfl (lv_at hl 1 rfl) ?_
  cases h
  exact w_iret C hW hS dX4_countNeedless_89
def fX4_isInversion (o0 : Nat) (x1 : Int32) (x2 : Int32) (σ : Mem) : Option Int32 :=
  (fX4_isPlaced o0 x1 σ).bind fun v2 => if v2 = 0 then (some (0 : Int32)) else ((fX4_isPlaced o0 x2 σ).bind fun v10 => if v10 = 0 then (some (0 : Int32)) else ((fX3_at (o0 + 1) x2 σ).bind fun v21 => (fX3_at (o0 + 1) x1 σ).bind fun v29 => if v29 ≤ v21 then (some (0 : Int32)) else (some (1 : Int32))))
set_option maxRecDepth 100000 in
set_option maxHeartbeats 4000000 in
theorem mX4_isInversion {l : Launch} {E : Ev} {b : Nat} (o0 : Nat) (x1 : Int32) (x2 : Int32) (ho0 : kd o0 = 4) (σ : Mem) (r : Int32) (h : fX4_isInversion o0 x1 x2 σ = some r) : Met l yX4_isInversion (tw yX4_isInversion cX4_isInversion 3 (some .boolean)) { frames := 2, cells := 0, slots := 0, locals := 42 } (va_Pc [.ref (b + o0), .int x1, .int x2] (Pr l E (LC E b) σ)) (Qz E (LC E b) (some (.int r)) σ) 0 0 (La (LC E b)) := by
  refine ct_of (by decide) (Nat.le_of_ble_eq_true rfl) ?_
  intro p e s m below meth c C hW hS ls hl
  have hx0 := C.1
  have hb := C.2.1
  have hl : lv_has ls 3 [(0, .ref (b + o0)), (1, .int x1), (2, .int x2)] := hl
  unfold fX4_isInversion at h
  refine lv_aload_n hx0 hb dX4_isInversion_0 rfl (lv_at hl 0 rfl) ?_
  refine lv_iload_n hx0 hb dX4_isInversion_1 rfl (lv_at hl 1 rfl) ?_
  obtain ⟨v2, h2, h⟩ := bnd h
  try dsimp only at h
  refine w_callV (L := (LC E b)) (k := o0) (As := [.int x1]) (rest := []) C hW hS (kdlt ho0 (by decide)) (ccX4 ho0) kcX4 (mX4_isPlaced o0 x1 ho0 σ v2 h2) cwX4_isPlaced cvX4_isPlaced rfl mlX4_81 ⟨by decide, by decide⟩ rfl hl.1 (Nat.le_of_ble_eq_true rfl) ⟨by decide, by decide⟩ dX4_isInversion_2 rfl (fun H locs hW hS => ?_)
  refine lv_if_eq (tgt := 39) hx0 hb dX4_isInversion_5 (by decide) (fun c5 => ?_) (fun c5 => ?_)
  · rw [if_pos c5] at h
    refine lv_iconst (v := (0 : Int32)) hx0 hb dX4_isInversion_39 (by decide) ?_
    cases h
    exact w_zret C hW hS (Or.inl rfl) dX4_isInversion_40
  · rw [if_neg c5] at h
    refine lv_aload_n hx0 hb dX4_isInversion_8 rfl (lv_at hl 0 rfl) ?_
    refine lv_iload_n hx0 hb dX4_isInversion_9 rfl (lv_at hl 2 rfl) ?_
    obtain ⟨v10, h10, h⟩ := bnd h
    try dsimp only at h
    refine w_callV (L := (LC E b)) (k := o0) (As := [.int x2]) (rest := []) C hW hS (kdlt ho0 (by decide)) (ccX4 ho0) kcX4 (mX4_isPlaced o0 x2 ho0 σ v10 h10) cwX4_isPlaced cvX4_isPlaced rfl mlX4_81 ⟨by decide, by decide⟩ rfl hl.1 (Nat.le_of_ble_eq_true rfl) ⟨by decide, by decide⟩ dX4_isInversion_10 rfl (fun H locs hW hS => ?_)
    refine lv_if_eq (tgt := 39) hx0 hb dX4_isInversion_13 (by decide) (fun c13 => ?_) (fun c13 => ?_)
    · rw [if_pos c13] at h
      refine lv_iconst (v := (0 : Int32)) hx0 hb dX4_isInversion_39 (by decide) ?_
      cases h
      exact w_zret C hW hS (Or.inl rfl) dX4_isInversion_40
    · rw [if_neg c13] at h
      refine lv_aload_n hx0 hb dX4_isInversion_16 rfl (lv_at hl 0 rfl) ?_
      refine gtX4_0 (k := o0) C hW ho0 flX4_14 dX4_isInversion_17 ?_
      refine lv_iload_n hx0 hb dX4_isInversion_20 rfl (lv_at hl 2 rfl) ?_
      obtain ⟨v21, h21, h⟩ := bnd h
      try dsimp only at h
      refine w_callV (L := (LC E b)) (k := o0 + 1) (As := [.int x2]) (rest := []) C hW hS (kdlt (chX4_0 ho0) (by decide)) (ccX3 (chX4_0 ho0)) kcX3 (mX3_at (o0 + 1) x2 (chX4_0 ho0) σ v21 h21) cwX3_at cvX3_at rfl mlX4_68 ⟨by decide, by decide⟩ rfl hl.1 (Nat.le_of_ble_eq_true rfl) ⟨by decide, by decide⟩ dX4_isInversion_21 rfl (fun H locs hW hS => ?_)
      refine lv_aload_n hx0 hb dX4_isInversion_24 rfl (lv_at hl 0 rfl) ?_
      refine gtX4_0 (k := o0) C hW ho0 flX4_14 dX4_isInversion_25 ?_
      refine lv_iload_n hx0 hb dX4_isInversion_28 rfl (lv_at hl 1 rfl) ?_
      obtain ⟨v29, h29, h⟩ := bnd h
      try dsimp only at h
      refine w_callV (L := (LC E b)) (k := o0 + 1) (As := [.int x1]) (rest := [.int v21]) C hW hS (kdlt (chX4_0 ho0) (by decide)) (ccX3 (chX4_0 ho0)) kcX3 (mX3_at (o0 + 1) x1 (chX4_0 ho0) σ v29 h29) cwX3_at cvX3_at rfl mlX4_68 ⟨by decide, by decide⟩ rfl hl.1 (Nat.le_of_ble_eq_true rfl) ⟨by decide, by decide⟩ dX4_isInversion_29 rfl (fun H locs hW hS => ?_)
      refine lv_icmp_ge (tgt := 39) hx0 hb dX4_isInversion_32 (by decide) (fun c32 => ?_) (fun c32 => ?_)
      · rw [if_pos c32] at h
        refine lv_iconst (v := (0 : Int32)) hx0 hb dX4_isInversion_39 (by decide) ?_
        cases h
        exact w_zret C hW hS (Or.inl rfl) dX4_isInversion_40
      · rw [if_neg c32] at h
        refine lv_iconst (v := (1 : Int32)) hx0 hb dX4_isInversion_35 (by decide) ?_
        refine lv_goto (tgt := 40) hx0 hb dX4_isInversion_36 (by decide) ?_
        cases h
        exact w_zret C hW hS (Or.inr rfl) dX4_isInversion_40
def fX4_countInversions_l14 (o0 : Nat) (x2 : Int32) : Nat → Int32 → Int32 → Mem → Option (Int32 × Int32)
  | 0, _, _, _ => none
  | n + 1, x1, x3, σ => if x2 ≤ x3 then (some (x1, x3)) else ((fX4_isInversion o0 x3 x2 σ).bind fun v22 => if v22 = 0 then (fX4_countInversions_l14 o0 x2 n x1 (x3 + (1 : Int32)) σ) else (fX4_countInversions_l14 o0 x2 n (x1 + (1 : Int32)) (x3 + (1 : Int32)) σ))
set_option maxRecDepth 100000 in
set_option maxHeartbeats 4000000 in
theorem bX4_countInversions_l14 {p : Program} {l : Launch} {e : Env} {s : State} {m : MethodId} {args : Array Value} {below : List Frame} {meth : Method} {c : Code} {E : Ev} {b : Nat} (C : Cx p l s m args meth c E cX4_countInversions 4 RX4 (some .int)) (o0 : Nat) (x2 : Int32) (ho0 : kd o0 = 4) (σ : Mem) {Qf : State → Prop} {q : Int32 × Int32} (hx : ∀ H locs ls, Wd E (LC E b) σ H → va_S (La (LC E b)) s.heap H locs → lv_has ls 4 [(0, .ref (b + o0)), (1, .int q.1), (2, .int x2), (3, .int q.2)] → W p l e { frames := 3, cells := 0, slots := 0, locals := 64 } s m args below meth c H locs 0 0 Qf (F0 m 37 ls [])) : ∀ (n : Nat) (x1 : Int32) (x3 : Int32), fX4_countInversions_l14 o0 x2 n x1 x3 σ = some q → ∀ (H : Heap) (locs : List Loc) (ls : Array Slot), Wd E (LC E b) σ H → va_S (La (LC E b)) s.heap H locs → lv_has ls 4 [(0, .ref (b + o0)), (1, .int x1), (2, .int x2), (3, .int x3)] → W p l e { frames := 3, cells := 0, slots := 0, locals := 64 } s m args below meth c H locs 0 0 Qf (F0 m 14 ls []) := by
  have hx0 := C.1
  have hb := C.2.1
  intro n
  induction n with
  | zero => intro x1 x3 h; simp [fX4_countInversions_l14] at h
  | succ n ih =>
    intro x1 x3 h H locs ls hW hS hl
    unfold fX4_countInversions_l14 at h
    refine lv_iload_n hx0 hb dX4_countInversions_14 rfl (lv_at hl 3 rfl) ?_
    refine lv_iload_n hx0 hb dX4_countInversions_15 rfl (lv_at hl 2 rfl) ?_
    refine lv_icmp_ge (tgt := 37) hx0 hb dX4_countInversions_16 (by decide) (fun c16 => ?_) (fun c16 => ?_)
    · rw [if_pos c16] at h
      cases h
      exact hx _ _ _ hW hS (lv_sub hl [0, 1, 2, 3] rfl)
    · rw [if_neg c16] at h
      refine lv_aload_n hx0 hb dX4_countInversions_19 rfl (lv_at hl 0 rfl) ?_
      refine lv_iload_n hx0 hb dX4_countInversions_20 rfl (lv_at hl 3 rfl) ?_
      refine lv_iload_n hx0 hb dX4_countInversions_21 rfl (lv_at hl 2 rfl) ?_
      obtain ⟨v22, h22, h⟩ := bnd h
      try dsimp only at h
      refine w_callV (L := (LC E b)) (k := o0) (As := [.int x3, .int x2]) (rest := []) C hW hS (kdlt ho0 (by decide)) (ccX4 ho0) kcX4 (mX4_isInversion o0 x3 x2 ho0 σ v22 h22) cwX4_isInversion cvX4_isInversion rfl mlX4_84 ⟨by decide, by decide⟩ rfl hl.1 (Nat.le_of_ble_eq_true rfl) ⟨by decide, by decide⟩ dX4_countInversions_22 rfl (fun H locs hW hS => ?_)
      refine lv_if_eq (tgt := 31) hx0 hb dX4_countInversions_25 (by decide) (fun c25 => ?_) (fun c25 => ?_)
      · rw [if_pos c25] at h
        refine lv_iinc (v := x3 + (1 : Int32)) (lv' := [(3, .int (x3 + (1 : Int32))), (0, .ref (b + o0)), (1, .int x1), (2, .int x2)]) hx0 hb dX4_countInversions_31 hl (k := 3) rfl rfl (by decide) rfl (fun ls hl => ?_)
        refine lv_goto (tgt := 14) hx0 hb dX4_countInversions_34 (by decide) ?_
        exact ih x1 (x3 + (1 : Int32)) h _ _ _ hW hS (lv_sub hl [1, 2, 3, 0] rfl)
      · rw [if_neg c25] at h
        refine lv_iinc (v := x1 + (1 : Int32)) (lv' := [(1, .int (x1 + (1 : Int32))), (0, .ref (b + o0)), (2, .int x2), (3, .int x3)]) hx0 hb dX4_countInversions_28 hl (k := 1) rfl rfl (by decide) rfl (fun ls hl => ?_)
        refine lv_iinc (v := x3 + (1 : Int32)) (lv' := [(3, .int (x3 + (1 : Int32))), (1, .int (x1 + (1 : Int32))), (0, .ref (b + o0)), (2, .int x2)]) hx0 hb dX4_countInversions_31 hl (k := 3) rfl rfl (by decide) rfl (fun ls hl => ?_)
        refine lv_goto (tgt := 14) hx0 hb dX4_countInversions_34 (by decide) ?_
        exact ih (x1 + (1 : Int32)) (x3 + (1 : Int32)) h _ _ _ hW hS (lv_sub hl [2, 1, 3, 0] rfl)
def fX4_countInversions_l4 (o0 : Nat) : Nat → Int32 → Int32 → Mem → Option (Int32 × Int32)
  | 0, _, _, _ => none
  | n + 1, x1, x2, σ => if (σ o0 5) ≤ x2 then (some (x1, x2)) else ((fX4_countInversions_l14 o0 x2 FU x1 (0 : Int32) σ).bind fun q14 => fX4_countInversions_l4 o0 n q14.1 (x2 + (1 : Int32)) σ)
set_option maxRecDepth 100000 in
set_option maxHeartbeats 4000000 in
theorem bX4_countInversions_l4 {p : Program} {l : Launch} {e : Env} {s : State} {m : MethodId} {args : Array Value} {below : List Frame} {meth : Method} {c : Code} {E : Ev} {b : Nat} (C : Cx p l s m args meth c E cX4_countInversions 4 RX4 (some .int)) (o0 : Nat) (ho0 : kd o0 = 4) (σ : Mem) {Qf : State → Prop} {q : Int32 × Int32} (hx : ∀ H locs ls, Wd E (LC E b) σ H → va_S (La (LC E b)) s.heap H locs → lv_has ls 4 [(0, .ref (b + o0)), (1, .int q.1), (2, .int q.2)] → W p l e { frames := 3, cells := 0, slots := 0, locals := 64 } s m args below meth c H locs 0 0 Qf (F0 m 43 ls [])) : ∀ (n : Nat) (x1 : Int32) (x2 : Int32), fX4_countInversions_l4 o0 n x1 x2 σ = some q → ∀ (H : Heap) (locs : List Loc) (ls : Array Slot), Wd E (LC E b) σ H → va_S (La (LC E b)) s.heap H locs → lv_has ls 4 [(0, .ref (b + o0)), (1, .int x1), (2, .int x2)] → W p l e { frames := 3, cells := 0, slots := 0, locals := 64 } s m args below meth c H locs 0 0 Qf (F0 m 4 ls []) := by
  have hx0 := C.1
  have hb := C.2.1
  intro n
  induction n with
  | zero => intro x1 x2 h; simp [fX4_countInversions_l4] at h
  | succ n ih =>
    intro x1 x2 h H locs ls hW hS hl
    unfold fX4_countInversions_l4 at h
    refine lv_iload_n hx0 hb dX4_countInversions_4 rfl (lv_at hl 2 rfl) ?_
    refine lv_aload_n hx0 hb dX4_countInversions_5 rfl (lv_at hl 0 rfl) ?_
    refine gtX4_5 (k := o0) C hW ho0 flX4_32 dX4_countInversions_6 ?_
    refine lv_icmp_ge (tgt := 43) hx0 hb dX4_countInversions_9 (by decide) (fun c9 => ?_) (fun c9 => ?_)
    · rw [if_pos c9] at h
      cases h
      exact hx _ _ _ hW hS (lv_sub hl [0, 1, 2] rfl)
    · rw [if_neg c9] at h
      refine lv_iconst (v := (0 : Int32)) hx0 hb dX4_countInversions_12 (by decide) ?_
      refine lv_istore_n (lv' := [(3, .int (0 : Int32)), (0, .ref (b + o0)), (1, .int x1), (2, .int x2)]) hx0 hb dX4_countInversions_13 rfl hl (by decide) rfl (fun ls hl => ?_)
      obtain ⟨q14, h14, h⟩ := bnd h
      try dsimp only at h
      refine bX4_countInversions_l14 C o0 x2 ho0 σ (q := q14) ?_ FU x1 (0 : Int32) h14 _ _ _ hW hS (lv_sub hl [1, 2, 3, 0] rfl)
      intro H locs ls hW hS hl
      refine lv_iinc (v := x2 + (1 : Int32)) (lv' := [(2, .int (x2 + (1 : Int32))), (0, .ref (b + o0)), (1, .int q14.1), (3, .int q14.2)]) hx0 hb dX4_countInversions_37 hl (k := 2) rfl rfl (by decide) rfl (fun ls hl => ?_)
      refine lv_goto (tgt := 4) hx0 hb dX4_countInversions_40 (by decide) ?_
      exact ih q14.1 (x2 + (1 : Int32)) h _ _ _ hW hS (lv_sub hl [1, 2, 0] rfl)
def fX4_countInversions (o0 : Nat) (σ : Mem) : Option Int32 :=
  (fX4_countInversions_l4 o0 FU (0 : Int32) (1 : Int32) σ).bind fun q4 => some q4.1
set_option maxRecDepth 100000 in
set_option maxHeartbeats 4000000 in
theorem mX4_countInversions {l : Launch} {E : Ev} {b : Nat} (o0 : Nat) (ho0 : kd o0 = 4) (σ : Mem) (r : Int32) (h : fX4_countInversions o0 σ = some r) : Met l yX4_countInversions (tw yX4_countInversions cX4_countInversions 4 (some .int)) { frames := 3, cells := 0, slots := 0, locals := 64 } (va_Pc [.ref (b + o0)] (Pr l E (LC E b) σ)) (Qz E (LC E b) (some (.int r)) σ) 0 0 (La (LC E b)) := by
  refine ct_of (by decide) (Nat.le_of_ble_eq_true rfl) ?_
  intro p e s m below meth c C hW hS ls hl
  have hx0 := C.1
  have hb := C.2.1
  have hl : lv_has ls 4 [(0, .ref (b + o0))] := hl
  unfold fX4_countInversions at h
  refine lv_iconst (v := (0 : Int32)) hx0 hb dX4_countInversions_0 (by decide) ?_
  refine lv_istore_n (lv' := [(1, .int (0 : Int32)), (0, .ref (b + o0))]) hx0 hb dX4_countInversions_1 rfl hl (by decide) rfl (fun ls hl => ?_)
  refine lv_iconst (v := (1 : Int32)) hx0 hb dX4_countInversions_2 (by decide) ?_
  refine lv_istore_n (lv' := [(2, .int (1 : Int32)), (1, .int (0 : Int32)), (0, .ref (b + o0))]) hx0 hb dX4_countInversions_3 rfl hl (by decide) rfl (fun ls hl => ?_)
  obtain ⟨q4, h4, h⟩ := bnd h
  try dsimp only at h
  refine bX4_countInversions_l4 C o0 ho0 σ (q := q4) ?_ FU (0 : Int32) (1 : Int32) h4 _ _ _ hW hS (lv_sub hl [2, 1, 0] rfl)
  intro H locs ls hW hS hl
  refine lv_iload_n hx0 hb dX4_countInversions_43 rfl (lv_at hl 1 rfl) ?_
  cases h
  exact w_iret C hW hS dX4_countInversions_44
def fX4_firstFalling_l12 (o0 : Nat) (x1 : Int32) : Nat → Int32 → Mem → Option (Int32 ⊕ (Int32))
  | 0, _, _ => none
  | n + 1, x2, σ => if x1 ≤ x2 then (some (.inr x2)) else ((fX4_isInversion o0 x2 x1 σ).bind fun v20 => if v20 = 0 then (fX4_firstFalling_l12 o0 x1 n (x2 + (1 : Int32)) σ) else (some (.inl x1)))
set_option maxRecDepth 100000 in
set_option maxHeartbeats 4000000 in
theorem bX4_firstFalling_l12 {p : Program} {l : Launch} {e : Env} {s : State} {m : MethodId} {args : Array Value} {below : List Frame} {meth : Method} {c : Code} {E : Ev} {b : Nat} (C : Cx p l s m args meth c E cX4_firstFalling 3 RX4 (some .int)) (o0 : Nat) (x1 : Int32) (ho0 : kd o0 = 4) (σ : Mem) (r0 : Int32) {q0 : Int32 ⊕ (Int32)} (hr : ∀ r, q0 = .inl r → r = r0) (hx : ∀ q, q0 = .inr q → ∀ H locs ls, Wd E (LC E b) σ H → va_S (La (LC E b)) s.heap H locs → lv_has ls 3 [(0, .ref (b + o0)), (1, .int x1), (2, .int q)] → W p l e { frames := 3, cells := 0, slots := 0, locals := 64 } s m args below meth c H locs 0 0 (MQ below (Qz E (LC E b) (some (.int r0)) σ) args s 0 0 (La (LC E b))) (F0 m 34 ls [])) : ∀ (n : Nat) (x2 : Int32), fX4_firstFalling_l12 o0 x1 n x2 σ = some q0 → ∀ (H : Heap) (locs : List Loc) (ls : Array Slot), Wd E (LC E b) σ H → va_S (La (LC E b)) s.heap H locs → lv_has ls 3 [(0, .ref (b + o0)), (1, .int x1), (2, .int x2)] → W p l e { frames := 3, cells := 0, slots := 0, locals := 64 } s m args below meth c H locs 0 0 (MQ below (Qz E (LC E b) (some (.int r0)) σ) args s 0 0 (La (LC E b))) (F0 m 12 ls []) := by
  have hx0 := C.1
  have hb := C.2.1
  intro n
  induction n with
  | zero => intro x2 h; simp [fX4_firstFalling_l12] at h
  | succ n ih =>
    intro x2 h H locs ls hW hS hl
    unfold fX4_firstFalling_l12 at h
    refine lv_iload_n hx0 hb dX4_firstFalling_12 rfl (lv_at hl 2 rfl) ?_
    refine lv_iload_n hx0 hb dX4_firstFalling_13 rfl (lv_at hl 1 rfl) ?_
    refine lv_icmp_ge (tgt := 34) hx0 hb dX4_firstFalling_14 (by decide) (fun c14 => ?_) (fun c14 => ?_)
    · rw [if_pos c14] at h
      cases h
      exact hx _ rfl _ _ _ hW hS (lv_sub hl [0, 1, 2] rfl)
    · rw [if_neg c14] at h
      refine lv_aload_n hx0 hb dX4_firstFalling_17 rfl (lv_at hl 0 rfl) ?_
      refine lv_iload_n hx0 hb dX4_firstFalling_18 rfl (lv_at hl 2 rfl) ?_
      refine lv_iload_n hx0 hb dX4_firstFalling_19 rfl (lv_at hl 1 rfl) ?_
      obtain ⟨v20, h20, h⟩ := bnd h
      try dsimp only at h
      refine w_callV (L := (LC E b)) (k := o0) (As := [.int x2, .int x1]) (rest := []) C hW hS (kdlt ho0 (by decide)) (ccX4 ho0) kcX4 (mX4_isInversion o0 x2 x1 ho0 σ v20 h20) cwX4_isInversion cvX4_isInversion rfl mlX4_84 ⟨by decide, by decide⟩ rfl hl.1 (Nat.le_of_ble_eq_true rfl) ⟨by decide, by decide⟩ dX4_firstFalling_20 rfl (fun H locs hW hS => ?_)
      refine lv_if_eq (tgt := 28) hx0 hb dX4_firstFalling_23 (by decide) (fun c23 => ?_) (fun c23 => ?_)
      · rw [if_pos c23] at h
        refine lv_iinc (v := x2 + (1 : Int32)) (lv' := [(2, .int (x2 + (1 : Int32))), (0, .ref (b + o0)), (1, .int x1)]) hx0 hb dX4_firstFalling_28 hl (k := 2) rfl rfl (by decide) rfl (fun ls hl => ?_)
        refine lv_goto (tgt := 12) hx0 hb dX4_firstFalling_31 (by decide) ?_
        exact ih (x2 + (1 : Int32)) h _ _ _ hW hS (lv_sub hl [1, 2, 0] rfl)
      · rw [if_neg c23] at h
        refine lv_iload_n hx0 hb dX4_firstFalling_26 rfl (lv_at hl 1 rfl) ?_
        cases h
        cases hr _ rfl
        exact w_iret C hW hS dX4_firstFalling_27
def fX4_firstFalling_l2 (o0 : Nat) : Nat → Int32 → Mem → Option (Int32 ⊕ (Int32))
  | 0, _, _ => none
  | n + 1, x1, σ => if (σ o0 5) ≤ x1 then (some (.inr x1)) else ((fX4_firstFalling_l12 o0 x1 FU (0 : Int32) σ).bind fun q12 => match q12 with | .inl r => some (.inl r) | .inr q12 => fX4_firstFalling_l2 o0 n (x1 + (1 : Int32)) σ)
set_option maxRecDepth 100000 in
set_option maxHeartbeats 4000000 in
theorem bX4_firstFalling_l2 {p : Program} {l : Launch} {e : Env} {s : State} {m : MethodId} {args : Array Value} {below : List Frame} {meth : Method} {c : Code} {E : Ev} {b : Nat} (C : Cx p l s m args meth c E cX4_firstFalling 3 RX4 (some .int)) (o0 : Nat) (ho0 : kd o0 = 4) (σ : Mem) (r0 : Int32) {q0 : Int32 ⊕ (Int32)} (hr : ∀ r, q0 = .inl r → r = r0) (hx : ∀ q, q0 = .inr q → ∀ H locs ls, Wd E (LC E b) σ H → va_S (La (LC E b)) s.heap H locs → lv_has ls 3 [(0, .ref (b + o0)), (1, .int q)] → W p l e { frames := 3, cells := 0, slots := 0, locals := 64 } s m args below meth c H locs 0 0 (MQ below (Qz E (LC E b) (some (.int r0)) σ) args s 0 0 (La (LC E b))) (F0 m 40 ls [])) : ∀ (n : Nat) (x1 : Int32), fX4_firstFalling_l2 o0 n x1 σ = some q0 → ∀ (H : Heap) (locs : List Loc) (ls : Array Slot), Wd E (LC E b) σ H → va_S (La (LC E b)) s.heap H locs → lv_has ls 3 [(0, .ref (b + o0)), (1, .int x1)] → W p l e { frames := 3, cells := 0, slots := 0, locals := 64 } s m args below meth c H locs 0 0 (MQ below (Qz E (LC E b) (some (.int r0)) σ) args s 0 0 (La (LC E b))) (F0 m 2 ls []) := by
  have hx0 := C.1
  have hb := C.2.1
  intro n
  induction n with
  | zero => intro x1 h; simp [fX4_firstFalling_l2] at h
  | succ n ih =>
    intro x1 h H locs ls hW hS hl
    unfold fX4_firstFalling_l2 at h
    refine lv_iload_n hx0 hb dX4_firstFalling_2 rfl (lv_at hl 1 rfl) ?_
    refine lv_aload_n hx0 hb dX4_firstFalling_3 rfl (lv_at hl 0 rfl) ?_
    refine gtX4_5 (k := o0) C hW ho0 flX4_32 dX4_firstFalling_4 ?_
    refine lv_icmp_ge (tgt := 40) hx0 hb dX4_firstFalling_7 (by decide) (fun c7 => ?_) (fun c7 => ?_)
    · rw [if_pos c7] at h
      cases h
      exact hx _ rfl _ _ _ hW hS (lv_sub hl [0, 1] rfl)
    · rw [if_neg c7] at h
      refine lv_iconst (v := (0 : Int32)) hx0 hb dX4_firstFalling_10 (by decide) ?_
      refine lv_istore_n (lv' := [(2, .int (0 : Int32)), (0, .ref (b + o0)), (1, .int x1)]) hx0 hb dX4_firstFalling_11 rfl hl (by decide) rfl (fun ls hl => ?_)
      obtain ⟨q12, h12, h⟩ := bnd h
      refine bX4_firstFalling_l12 C o0 x1 ho0 σ r0 (q0 := q12) ?_ ?_ FU (0 : Int32) h12 _ _ _ hW hS (lv_sub hl [1, 2, 0] rfl)
      · intro r1 hq; subst hq; (try dsimp only at h); cases h; exact hr _ rfl
      · intro q12 hq H locs ls hW hS hl
        subst hq; try dsimp only at h
        refine lv_iinc (v := x1 + (1 : Int32)) (lv' := [(1, .int (x1 + (1 : Int32))), (0, .ref (b + o0)), (2, .int q12)]) hx0 hb dX4_firstFalling_34 hl (k := 1) rfl rfl (by decide) rfl (fun ls hl => ?_)
        refine lv_goto (tgt := 2) hx0 hb dX4_firstFalling_37 (by decide) ?_
        exact ih (x1 + (1 : Int32)) h _ _ _ hW hS (lv_sub hl [1, 0] rfl)
def fX4_firstFalling (o0 : Nat) (σ : Mem) : Option Int32 :=
  (fX4_firstFalling_l2 o0 FU (1 : Int32) σ).bind fun q2 => match q2 with | .inl r => some r | .inr q2 => some (-1 : Int32)
set_option maxRecDepth 100000 in
set_option maxHeartbeats 4000000 in
theorem mX4_firstFalling {l : Launch} {E : Ev} {b : Nat} (o0 : Nat) (ho0 : kd o0 = 4) (σ : Mem) (r : Int32) (h : fX4_firstFalling o0 σ = some r) : Met l yX4_firstFalling (tw yX4_firstFalling cX4_firstFalling 3 (some .int)) { frames := 3, cells := 0, slots := 0, locals := 64 } (va_Pc [.ref (b + o0)] (Pr l E (LC E b) σ)) (Qz E (LC E b) (some (.int r)) σ) 0 0 (La (LC E b)) := by
  refine ct_of (by decide) (Nat.le_of_ble_eq_true rfl) ?_
  intro p e s m below meth c C hW hS ls hl
  have hx0 := C.1
  have hb := C.2.1
  have hl : lv_has ls 3 [(0, .ref (b + o0))] := hl
  unfold fX4_firstFalling at h
  refine lv_iconst (v := (1 : Int32)) hx0 hb dX4_firstFalling_0 (by decide) ?_
  refine lv_istore_n (lv' := [(1, .int (1 : Int32)), (0, .ref (b + o0))]) hx0 hb dX4_firstFalling_1 rfl hl (by decide) rfl (fun ls hl => ?_)
  obtain ⟨q2, h2, h⟩ := bnd h
  refine bX4_firstFalling_l2 C o0 ho0 σ r (q0 := q2) ?_ ?_ FU (1 : Int32) h2 _ _ _ hW hS (lv_sub hl [1, 0] rfl)
  · intro r1 hq; subst hq; (try dsimp only at h); exact Option.some.inj h
  · intro q2 hq H locs ls hW hS hl
    subst hq; try dsimp only at h
    refine lv_iconst (v := (-1 : Int32)) hx0 hb dX4_firstFalling_40 (by decide) ?_
    cases h
    exact w_iret C hW hS dX4_firstFalling_41
def fX4_longestChainBefore_l4 (o0 : Nat) (x1 : Int32) : Nat → Int32 → Int32 → Mem → Option (Int32 × Int32)
  | 0, _, _, _ => none
  | n + 1, x2, x3, σ => if x1 ≤ x3 then (some (x2, x3)) else ((fX4_isPlaced o0 x3 σ).bind fun v11 => if v11 = 0 then (fX4_longestChainBefore_l4 o0 x1 n x2 (x3 + (1 : Int32)) σ) else ((fX4_isInversion o0 x3 x1 σ).bind fun v20 => if v20 = 0 then ((fX3_at (o0 + 7) x3 σ).bind fun v32 => fX4_longestChainBefore_l4 o0 x1 n (if x2 < v32 then v32 else x2) (x3 + (1 : Int32)) σ) else (fX4_longestChainBefore_l4 o0 x1 n x2 (x3 + (1 : Int32)) σ)))
set_option maxRecDepth 100000 in
set_option maxHeartbeats 4000000 in
theorem bX4_longestChainBefore_l4 {p : Program} {l : Launch} {e : Env} {s : State} {m : MethodId} {args : Array Value} {below : List Frame} {meth : Method} {c : Code} {E : Ev} {b : Nat} (C : Cx p l s m args meth c E cX4_longestChainBefore 4 RX4 (some .int)) (o0 : Nat) (x1 : Int32) (ho0 : kd o0 = 4) (σ : Mem) {Qf : State → Prop} {q : Int32 × Int32} (hx : ∀ H locs ls, Wd E (LC E b) σ H → va_S (La (LC E b)) s.heap H locs → lv_has ls 4 [(0, .ref (b + o0)), (1, .int x1), (2, .int q.1), (3, .int q.2)] → W p l e { frames := 3, cells := 0, slots := 0, locals := 64 } s m args below meth c H locs 0 0 Qf (F0 m 45 ls [])) : ∀ (n : Nat) (x2 : Int32) (x3 : Int32), fX4_longestChainBefore_l4 o0 x1 n x2 x3 σ = some q → ∀ (H : Heap) (locs : List Loc) (ls : Array Slot), Wd E (LC E b) σ H → va_S (La (LC E b)) s.heap H locs → lv_has ls 4 [(0, .ref (b + o0)), (1, .int x1), (2, .int x2), (3, .int x3)] → W p l e { frames := 3, cells := 0, slots := 0, locals := 64 } s m args below meth c H locs 0 0 Qf (F0 m 4 ls []) := by
  have hx0 := C.1
  have hb := C.2.1
  intro n
  induction n with
  | zero => intro x2 x3 h; simp [fX4_longestChainBefore_l4] at h
  | succ n ih =>
    intro x2 x3 h H locs ls hW hS hl
    unfold fX4_longestChainBefore_l4 at h
    refine lv_iload_n hx0 hb dX4_longestChainBefore_4 rfl (lv_at hl 3 rfl) ?_
    refine lv_iload_n hx0 hb dX4_longestChainBefore_5 rfl (lv_at hl 1 rfl) ?_
    refine lv_icmp_ge (tgt := 45) hx0 hb dX4_longestChainBefore_6 (by decide) (fun c6 => ?_) (fun c6 => ?_)
    · rw [if_pos c6] at h
      cases h
      exact hx _ _ _ hW hS (lv_sub hl [0, 1, 2, 3] rfl)
    · rw [if_neg c6] at h
      refine lv_aload_n hx0 hb dX4_longestChainBefore_9 rfl (lv_at hl 0 rfl) ?_
      refine lv_iload_n hx0 hb dX4_longestChainBefore_10 rfl (lv_at hl 3 rfl) ?_
      obtain ⟨v11, h11, h⟩ := bnd h
      try dsimp only at h
      refine w_callV (L := (LC E b)) (k := o0) (As := [.int x3]) (rest := []) C hW hS (kdlt ho0 (by decide)) (ccX4 ho0) kcX4 (mX4_isPlaced o0 x3 ho0 σ v11 h11) cwX4_isPlaced cvX4_isPlaced rfl mlX4_81 ⟨by decide, by decide⟩ rfl hl.1 (Nat.le_of_ble_eq_true rfl) ⟨by decide, by decide⟩ dX4_longestChainBefore_11 rfl (fun H locs hW hS => ?_)
      refine lv_if_eq (tgt := 39) hx0 hb dX4_longestChainBefore_14 (by decide) (fun c14 => ?_) (fun c14 => ?_)
      · rw [if_pos c14] at h
        refine lv_iinc (v := x3 + (1 : Int32)) (lv' := [(3, .int (x3 + (1 : Int32))), (0, .ref (b + o0)), (1, .int x1), (2, .int x2)]) hx0 hb dX4_longestChainBefore_39 hl (k := 3) rfl rfl (by decide) rfl (fun ls hl => ?_)
        refine lv_goto (tgt := 4) hx0 hb dX4_longestChainBefore_42 (by decide) ?_
        exact ih x2 (x3 + (1 : Int32)) h _ _ _ hW hS (lv_sub hl [1, 2, 3, 0] rfl)
      · rw [if_neg c14] at h
        refine lv_aload_n hx0 hb dX4_longestChainBefore_17 rfl (lv_at hl 0 rfl) ?_
        refine lv_iload_n hx0 hb dX4_longestChainBefore_18 rfl (lv_at hl 3 rfl) ?_
        refine lv_iload_n hx0 hb dX4_longestChainBefore_19 rfl (lv_at hl 1 rfl) ?_
        obtain ⟨v20, h20, h⟩ := bnd h
        try dsimp only at h
        refine w_callV (L := (LC E b)) (k := o0) (As := [.int x3, .int x1]) (rest := []) C hW hS (kdlt ho0 (by decide)) (ccX4 ho0) kcX4 (mX4_isInversion o0 x3 x1 ho0 σ v20 h20) cwX4_isInversion cvX4_isInversion rfl mlX4_84 ⟨by decide, by decide⟩ rfl hl.1 (Nat.le_of_ble_eq_true rfl) ⟨by decide, by decide⟩ dX4_longestChainBefore_20 rfl (fun H locs hW hS => ?_)
        refine lv_if_ne (tgt := 39) hx0 hb dX4_longestChainBefore_23 (by decide) (fun c23 => ?_) (fun c23 => ?_)
        · rw [if_neg c23] at h
          refine lv_iinc (v := x3 + (1 : Int32)) (lv' := [(3, .int (x3 + (1 : Int32))), (0, .ref (b + o0)), (1, .int x1), (2, .int x2)]) hx0 hb dX4_longestChainBefore_39 hl (k := 3) rfl rfl (by decide) rfl (fun ls hl => ?_)
          refine lv_goto (tgt := 4) hx0 hb dX4_longestChainBefore_42 (by decide) ?_
          exact ih x2 (x3 + (1 : Int32)) h _ _ _ hW hS (lv_sub hl [1, 2, 3, 0] rfl)
        · rw [if_pos c23] at h
          refine lv_iload_n hx0 hb dX4_longestChainBefore_26 rfl (lv_at hl 2 rfl) ?_
          refine lv_aload_n hx0 hb dX4_longestChainBefore_27 rfl (lv_at hl 0 rfl) ?_
          refine gtX4_3 (k := o0) C hW ho0 flX4_26 dX4_longestChainBefore_28 ?_
          refine lv_iload_n hx0 hb dX4_longestChainBefore_31 rfl (lv_at hl 3 rfl) ?_
          obtain ⟨v32, h32, h⟩ := bnd h
          try dsimp only at h
          refine w_callV (L := (LC E b)) (k := o0 + 7) (As := [.int x3]) (rest := [.int x2]) C hW hS (kdlt (chX4_3 ho0) (by decide)) (ccX3 (chX4_3 ho0)) kcX3 (mX3_at (o0 + 7) x3 (chX4_3 ho0) σ v32 h32) cwX3_at cvX3_at rfl mlX4_68 ⟨by decide, by decide⟩ rfl hl.1 (Nat.le_of_ble_eq_true rfl) ⟨by decide, by decide⟩ dX4_longestChainBefore_32 rfl (fun H locs hW hS => ?_)
          refine w_mmax C hl.1 mlX4_91 ⟨by decide, Nat.le_of_ble_eq_true rfl⟩ ⟨by decide, by decide⟩ dX4_longestChainBefore_35 ?_
          refine lv_istore_n (lv' := [(2, .int (if x2 < v32 then v32 else x2)), (0, .ref (b + o0)), (1, .int x1), (3, .int x3)]) hx0 hb dX4_longestChainBefore_38 rfl hl (by decide) rfl (fun ls hl => ?_)
          refine lv_iinc (v := x3 + (1 : Int32)) (lv' := [(3, .int (x3 + (1 : Int32))), (2, .int (if x2 < v32 then v32 else x2)), (0, .ref (b + o0)), (1, .int x1)]) hx0 hb dX4_longestChainBefore_39 hl (k := 3) rfl rfl (by decide) rfl (fun ls hl => ?_)
          refine lv_goto (tgt := 4) hx0 hb dX4_longestChainBefore_42 (by decide) ?_
          exact ih (if x2 < v32 then v32 else x2) (x3 + (1 : Int32)) h _ _ _ hW hS (lv_sub hl [2, 3, 1, 0] rfl)
def fX4_longestChainBefore (o0 : Nat) (x1 : Int32) (σ : Mem) : Option Int32 :=
  (fX4_longestChainBefore_l4 o0 x1 FU (0 : Int32) (0 : Int32) σ).bind fun q4 => some q4.1
set_option maxRecDepth 100000 in
set_option maxHeartbeats 4000000 in
theorem mX4_longestChainBefore {l : Launch} {E : Ev} {b : Nat} (o0 : Nat) (x1 : Int32) (ho0 : kd o0 = 4) (σ : Mem) (r : Int32) (h : fX4_longestChainBefore o0 x1 σ = some r) : Met l yX4_longestChainBefore (tw yX4_longestChainBefore cX4_longestChainBefore 4 (some .int)) { frames := 3, cells := 0, slots := 0, locals := 64 } (va_Pc [.ref (b + o0), .int x1] (Pr l E (LC E b) σ)) (Qz E (LC E b) (some (.int r)) σ) 0 0 (La (LC E b)) := by
  refine ct_of (by decide) (Nat.le_of_ble_eq_true rfl) ?_
  intro p e s m below meth c C hW hS ls hl
  have hx0 := C.1
  have hb := C.2.1
  have hl : lv_has ls 4 [(0, .ref (b + o0)), (1, .int x1)] := hl
  unfold fX4_longestChainBefore at h
  refine lv_iconst (v := (0 : Int32)) hx0 hb dX4_longestChainBefore_0 (by decide) ?_
  refine lv_istore_n (lv' := [(2, .int (0 : Int32)), (0, .ref (b + o0)), (1, .int x1)]) hx0 hb dX4_longestChainBefore_1 rfl hl (by decide) rfl (fun ls hl => ?_)
  refine lv_iconst (v := (0 : Int32)) hx0 hb dX4_longestChainBefore_2 (by decide) ?_
  refine lv_istore_n (lv' := [(3, .int (0 : Int32)), (2, .int (0 : Int32)), (0, .ref (b + o0)), (1, .int x1)]) hx0 hb dX4_longestChainBefore_3 rfl hl (by decide) rfl (fun ls hl => ?_)
  obtain ⟨q4, h4, h⟩ := bnd h
  try dsimp only at h
  refine bX4_longestChainBefore_l4 C o0 x1 ho0 σ (q := q4) ?_ FU (0 : Int32) (0 : Int32) h4 _ _ _ hW hS (lv_sub hl [2, 3, 1, 0] rfl)
  intro H locs ls hW hS hl
  refine lv_iload_n hx0 hb dX4_longestChainBefore_45 rfl (lv_at hl 2 rfl) ?_
  cases h
  exact w_iret C hW hS dX4_longestChainBefore_46
def fX4_countMoves_l6 (o0 : Nat) : Nat → Int32 → Int32 → Int32 → Mem → Option (Int32 × Int32 × Int32 × Mem)
  | 0, _, _, _, _ => none
  | n + 1, x1, x2, x3, σ => if (σ o0 5) ≤ x3 then (some (x1, x2, x3, σ)) else ((fX4_isPlaced o0 x3 σ).bind fun v16 => if v16 = 0 then (fX4_countMoves_l6 o0 n x1 x2 (x3 + (1 : Int32)) σ) else ((fX4_longestChainBefore o0 x3 σ).bind fun v25 => (fX3_put (o0 + 7) x3 ((1 : Int32) + v25) σ).bind fun v38 => fX4_countMoves_l6 o0 n (x1 + (1 : Int32)) (if x2 < ((1 : Int32) + v25) then ((1 : Int32) + v25) else x2) (x3 + (1 : Int32)) v38))
set_option maxRecDepth 100000 in
set_option maxHeartbeats 4000000 in
theorem bX4_countMoves_l6 {p : Program} {l : Launch} {e : Env} {s : State} {m : MethodId} {args : Array Value} {below : List Frame} {meth : Method} {c : Code} {E : Ev} {b : Nat} (C : Cx p l s m args meth c E cX4_countMoves 5 RX4 (some .int)) (o0 : Nat) (ho0 : kd o0 = 4) {Qf : State → Prop} {q : Int32 × Int32 × Int32 × Mem} (hx : ∀ H locs ls, Wd E (LC E b) q.2.2.2 H → va_S (La (LC E b)) s.heap H locs → lv_has ls 5 [(0, .ref (b + o0)), (1, .int q.1), (2, .int q.2.1), (3, .int q.2.2.1)] → W p l e { frames := 4, cells := 0, slots := 0, locals := 87 } s m args below meth c H locs 0 0 Qf (F0 m 57 ls [])) : ∀ (n : Nat) (x1 : Int32) (x2 : Int32) (x3 : Int32) (σ : Mem), fX4_countMoves_l6 o0 n x1 x2 x3 σ = some q → ∀ (H : Heap) (locs : List Loc) (ls : Array Slot), Wd E (LC E b) σ H → va_S (La (LC E b)) s.heap H locs → lv_has ls 5 [(0, .ref (b + o0)), (1, .int x1), (2, .int x2), (3, .int x3)] → W p l e { frames := 4, cells := 0, slots := 0, locals := 87 } s m args below meth c H locs 0 0 Qf (F0 m 6 ls []) := by
  have hx0 := C.1
  have hb := C.2.1
  intro n
  induction n with
  | zero => intro x1 x2 x3 σ h; simp [fX4_countMoves_l6] at h
  | succ n ih =>
    intro x1 x2 x3 σ h H locs ls hW hS hl
    unfold fX4_countMoves_l6 at h
    refine lv_iload_n hx0 hb dX4_countMoves_6 rfl (lv_at hl 3 rfl) ?_
    refine lv_aload_n hx0 hb dX4_countMoves_7 rfl (lv_at hl 0 rfl) ?_
    refine gtX4_5 (k := o0) C hW ho0 flX4_32 dX4_countMoves_8 ?_
    refine lv_icmp_ge (tgt := 57) hx0 hb dX4_countMoves_11 (by decide) (fun c11 => ?_) (fun c11 => ?_)
    · rw [if_pos c11] at h
      cases h
      exact hx _ _ _ hW hS (lv_sub hl [0, 1, 2, 3] rfl)
    · rw [if_neg c11] at h
      refine lv_aload_n hx0 hb dX4_countMoves_14 rfl (lv_at hl 0 rfl) ?_
      refine lv_iload_n hx0 hb dX4_countMoves_15 rfl (lv_at hl 3 rfl) ?_
      obtain ⟨v16, h16, h⟩ := bnd h
      try dsimp only at h
      refine w_callV (L := (LC E b)) (k := o0) (As := [.int x3]) (rest := []) C hW hS (kdlt ho0 (by decide)) (ccX4 ho0) kcX4 (mX4_isPlaced o0 x3 ho0 σ v16 h16) cwX4_isPlaced cvX4_isPlaced rfl mlX4_81 ⟨by decide, by decide⟩ rfl hl.1 (Nat.le_of_ble_eq_true rfl) ⟨by decide, by decide⟩ dX4_countMoves_16 rfl (fun H locs hW hS => ?_)
      refine lv_if_eq (tgt := 51) hx0 hb dX4_countMoves_19 (by decide) (fun c19 => ?_) (fun c19 => ?_)
      · rw [if_pos c19] at h
        refine lv_iinc (v := x3 + (1 : Int32)) (lv' := [(3, .int (x3 + (1 : Int32))), (0, .ref (b + o0)), (1, .int x1), (2, .int x2)]) hx0 hb dX4_countMoves_51 hl (k := 3) rfl rfl (by decide) rfl (fun ls hl => ?_)
        refine lv_goto (tgt := 6) hx0 hb dX4_countMoves_54 (by decide) ?_
        exact ih x1 x2 (x3 + (1 : Int32)) σ h _ _ _ hW hS (lv_sub hl [1, 2, 3, 0] rfl)
      · rw [if_neg c19] at h
        refine lv_iconst (v := (1 : Int32)) hx0 hb dX4_countMoves_22 (by decide) ?_
        refine lv_aload_n hx0 hb dX4_countMoves_23 rfl (lv_at hl 0 rfl) ?_
        refine lv_iload_n hx0 hb dX4_countMoves_24 rfl (lv_at hl 3 rfl) ?_
        obtain ⟨v25, h25, h⟩ := bnd h
        try dsimp only at h
        refine w_callV (L := (LC E b)) (k := o0) (As := [.int x3]) (rest := [.int (1 : Int32)]) C hW hS (kdlt ho0 (by decide)) (ccX4 ho0) kcX4 (mX4_longestChainBefore o0 x3 ho0 σ v25 h25) cwX4_longestChainBefore cvX4_longestChainBefore rfl mlX4_88 ⟨by decide, by decide⟩ rfl hl.1 (Nat.le_of_ble_eq_true rfl) ⟨by decide, by decide⟩ dX4_countMoves_25 rfl (fun H locs hW hS => ?_)
        refine lv_iadd hx0 hb dX4_countMoves_28 ?_
        refine lv_istore (lv' := [(4, .int ((1 : Int32) + v25)), (0, .ref (b + o0)), (1, .int x1), (2, .int x2), (3, .int x3)]) hx0 hb dX4_countMoves_29 hl (by decide) rfl (fun ls hl => ?_)
        refine lv_aload_n hx0 hb dX4_countMoves_31 rfl (lv_at hl 1 rfl) ?_
        refine gtX4_3 (k := o0) C hW ho0 flX4_26 dX4_countMoves_32 ?_
        refine lv_iload_n hx0 hb dX4_countMoves_35 rfl (lv_at hl 4 rfl) ?_
        refine lv_iload hx0 hb dX4_countMoves_36 (lv_at hl 0 rfl) ?_
        obtain ⟨v38, h38, h⟩ := bnd h
        try dsimp only at h
        refine w_callV (L := (LC E b)) (k := o0 + 7) (As := [.int x3, .int ((1 : Int32) + v25)]) (rest := []) C hW hS (kdlt (chX4_3 ho0) (by decide)) (ccX3 (chX4_3 ho0)) kcX3 (mX3_put (o0 + 7) x3 ((1 : Int32) + v25) (chX4_3 ho0) σ v38 h38) cwX3_put cvX3_put rfl mlX4_64 ⟨by decide, by decide⟩ rfl hl.1 (Nat.le_of_ble_eq_true rfl) ⟨by decide, by decide⟩ dX4_countMoves_38 rfl (fun H locs hW hS => ?_)
        refine lv_iload_n hx0 hb dX4_countMoves_41 rfl (lv_at hl 3 rfl) ?_
        refine lv_iload hx0 hb dX4_countMoves_42 (lv_at hl 0 rfl) ?_
        refine w_mmax C hl.1 mlX4_91 ⟨by decide, Nat.le_of_ble_eq_true rfl⟩ ⟨by decide, by decide⟩ dX4_countMoves_44 ?_
        refine lv_istore_n (lv' := [(2, .int (if x2 < ((1 : Int32) + v25) then ((1 : Int32) + v25) else x2)), (4, .int ((1 : Int32) + v25)), (0, .ref (b + o0)), (1, .int x1), (3, .int x3)]) hx0 hb dX4_countMoves_47 rfl hl (by decide) rfl (fun ls hl => ?_)
        refine lv_iinc (v := x1 + (1 : Int32)) (lv' := [(1, .int (x1 + (1 : Int32))), (2, .int (if x2 < ((1 : Int32) + v25) then ((1 : Int32) + v25) else x2)), (4, .int ((1 : Int32) + v25)), (0, .ref (b + o0)), (3, .int x3)]) hx0 hb dX4_countMoves_48 hl (k := 3) rfl rfl (by decide) rfl (fun ls hl => ?_)
        refine lv_iinc (v := x3 + (1 : Int32)) (lv' := [(3, .int (x3 + (1 : Int32))), (1, .int (x1 + (1 : Int32))), (2, .int (if x2 < ((1 : Int32) + v25) then ((1 : Int32) + v25) else x2)), (4, .int ((1 : Int32) + v25)), (0, .ref (b + o0))]) hx0 hb dX4_countMoves_51 hl (k := 4) rfl rfl (by decide) rfl (fun ls hl => ?_)
        refine lv_goto (tgt := 6) hx0 hb dX4_countMoves_54 (by decide) ?_
        exact ih (x1 + (1 : Int32)) (if x2 < ((1 : Int32) + v25) then ((1 : Int32) + v25) else x2) (x3 + (1 : Int32)) v38 h _ _ _ hW hS (lv_sub hl [4, 1, 2, 0] rfl)
def fX4_countMoves (o0 : Nat) (σ : Mem) : Option (Int32 × Mem) :=
  (fX4_countMoves_l6 o0 FU (0 : Int32) (0 : Int32) (0 : Int32) σ).bind fun q6 => some (q6.1 - q6.2.1, q6.2.2.2)
set_option maxRecDepth 100000 in
set_option maxHeartbeats 4000000 in
theorem mX4_countMoves {l : Launch} {E : Ev} {b : Nat} (o0 : Nat) (ho0 : kd o0 = 4) (σ : Mem) (r : (Int32 × Mem)) (h : fX4_countMoves o0 σ = some r) : Met l yX4_countMoves (tw yX4_countMoves cX4_countMoves 5 (some .int)) { frames := 4, cells := 0, slots := 0, locals := 87 } (va_Pc [.ref (b + o0)] (Pr l E (LC E b) σ)) (Qz E (LC E b) (some (.int r.1)) r.2) 0 0 (La (LC E b)) := by
  refine ct_of (by decide) (Nat.le_of_ble_eq_true rfl) ?_
  intro p e s m below meth c C hW hS ls hl
  have hx0 := C.1
  have hb := C.2.1
  have hl : lv_has ls 5 [(0, .ref (b + o0))] := hl
  unfold fX4_countMoves at h
  refine lv_iconst (v := (0 : Int32)) hx0 hb dX4_countMoves_0 (by decide) ?_
  refine lv_istore_n (lv' := [(1, .int (0 : Int32)), (0, .ref (b + o0))]) hx0 hb dX4_countMoves_1 rfl hl (by decide) rfl (fun ls hl => ?_)
  refine lv_iconst (v := (0 : Int32)) hx0 hb dX4_countMoves_2 (by decide) ?_
  refine lv_istore_n (lv' := [(2, .int (0 : Int32)), (1, .int (0 : Int32)), (0, .ref (b + o0))]) hx0 hb dX4_countMoves_3 rfl hl (by decide) rfl (fun ls hl => ?_)
  refine lv_iconst (v := (0 : Int32)) hx0 hb dX4_countMoves_4 (by decide) ?_
  refine lv_istore_n (lv' := [(3, .int (0 : Int32)), (2, .int (0 : Int32)), (1, .int (0 : Int32)), (0, .ref (b + o0))]) hx0 hb dX4_countMoves_5 rfl hl (by decide) rfl (fun ls hl => ?_)
  obtain ⟨q6, h6, h⟩ := bnd h
  try dsimp only at h
  refine bX4_countMoves_l6 C o0 ho0 (q := q6) ?_ FU (0 : Int32) (0 : Int32) (0 : Int32) σ h6 _ _ _ hW hS (lv_sub hl [3, 2, 1, 0] rfl)
  intro H locs ls hW hS hl
  refine lv_iload_n hx0 hb dX4_countMoves_57 rfl (lv_at hl 1 rfl) ?_
  refine lv_iload_n hx0 hb dX4_countMoves_58 rfl (lv_at hl 2 rfl) ?_
  refine lv_isub hx0 hb dX4_countMoves_59 ?_
  cases h
  exact w_iret C hW hS dX4_countMoves_60
def fX4_longestRising_l9 (o0 : Nat) : Nat → Int32 → Int32 → Int32 → Int32 → Mem → Option (Int32 × Int32 × Int32 × Int32)
  | 0, _, _, _, _, _ => none
  | n + 1, x1, x2, x3, x4, σ => if (σ o0 5) ≤ x4 then (some (x1, x2, x3, x4)) else ((fX4_isPlaced o0 x4 σ).bind fun v21 => if v21 = 0 then (fX4_longestRising_l9 o0 n x1 x2 x3 (x4 + (1 : Int32)) σ) else ((fX3_at (o0 + 1) x4 σ).bind fun v33 => if x3 ≤ v33 then ((fX3_at (o0 + 1) x4 σ).bind fun v54 => fX4_longestRising_l9 o0 n (if x1 < (x2 + (1 : Int32)) then (x2 + (1 : Int32)) else x1) (x2 + (1 : Int32)) v54 (x4 + (1 : Int32)) σ) else ((fX3_at (o0 + 1) x4 σ).bind fun v54 => fX4_longestRising_l9 o0 n (if x1 < (1 : Int32) then (1 : Int32) else x1) (1 : Int32) v54 (x4 + (1 : Int32)) σ)))
set_option maxRecDepth 100000 in
set_option maxHeartbeats 4000000 in
theorem bX4_longestRising_l9 {p : Program} {l : Launch} {e : Env} {s : State} {m : MethodId} {args : Array Value} {below : List Frame} {meth : Method} {c : Code} {E : Ev} {b : Nat} (C : Cx p l s m args meth c E cX4_longestRising 5 RX4 (some .int)) (o0 : Nat) (ho0 : kd o0 = 4) (σ : Mem) {Qf : State → Prop} {q : Int32 × Int32 × Int32 × Int32} (hx : ∀ H locs ls, Wd E (LC E b) σ H → va_S (La (LC E b)) s.heap H locs → lv_has ls 5 [(0, .ref (b + o0)), (1, .int q.1), (2, .int q.2.1), (3, .int q.2.2.1), (4, .int q.2.2.2)] → W p l e { frames := 2, cells := 0, slots := 0, locals := 42 } s m args below meth c H locs 0 0 Qf (F0 m 70 ls [])) : ∀ (n : Nat) (x1 : Int32) (x2 : Int32) (x3 : Int32) (x4 : Int32), fX4_longestRising_l9 o0 n x1 x2 x3 x4 σ = some q → ∀ (H : Heap) (locs : List Loc) (ls : Array Slot), Wd E (LC E b) σ H → va_S (La (LC E b)) s.heap H locs → lv_has ls 5 [(0, .ref (b + o0)), (1, .int x1), (2, .int x2), (3, .int x3), (4, .int x4)] → W p l e { frames := 2, cells := 0, slots := 0, locals := 42 } s m args below meth c H locs 0 0 Qf (F0 m 9 ls []) := by
  have hx0 := C.1
  have hb := C.2.1
  intro n
  induction n with
  | zero => intro x1 x2 x3 x4 h; simp [fX4_longestRising_l9] at h
  | succ n ih =>
    intro x1 x2 x3 x4 h H locs ls hW hS hl
    unfold fX4_longestRising_l9 at h
    refine lv_iload hx0 hb dX4_longestRising_9 (lv_at hl 4 rfl) ?_
    refine lv_aload_n hx0 hb dX4_longestRising_11 rfl (lv_at hl 0 rfl) ?_
    refine gtX4_5 (k := o0) C hW ho0 flX4_32 dX4_longestRising_12 ?_
    refine lv_icmp_ge (tgt := 70) hx0 hb dX4_longestRising_15 (by decide) (fun c15 => ?_) (fun c15 => ?_)
    · rw [if_pos c15] at h
      cases h
      exact hx _ _ _ hW hS (lv_sub hl [0, 1, 2, 3, 4] rfl)
    · rw [if_neg c15] at h
      refine lv_aload_n hx0 hb dX4_longestRising_18 rfl (lv_at hl 0 rfl) ?_
      refine lv_iload hx0 hb dX4_longestRising_19 (lv_at hl 4 rfl) ?_
      obtain ⟨v21, h21, h⟩ := bnd h
      try dsimp only at h
      refine w_callV (L := (LC E b)) (k := o0) (As := [.int x4]) (rest := []) C hW hS (kdlt ho0 (by decide)) (ccX4 ho0) kcX4 (mX4_isPlaced o0 x4 ho0 σ v21 h21) cwX4_isPlaced cvX4_isPlaced rfl mlX4_81 ⟨by decide, by decide⟩ rfl hl.1 (Nat.le_of_ble_eq_true rfl) ⟨by decide, by decide⟩ dX4_longestRising_21 rfl (fun H locs hW hS => ?_)
      refine lv_if_eq (tgt := 64) hx0 hb dX4_longestRising_24 (by decide) (fun c24 => ?_) (fun c24 => ?_)
      · rw [if_pos c24] at h
        refine lv_iinc (v := x4 + (1 : Int32)) (lv' := [(4, .int (x4 + (1 : Int32))), (0, .ref (b + o0)), (1, .int x1), (2, .int x2), (3, .int x3)]) hx0 hb dX4_longestRising_64 hl (k := 4) rfl rfl (by decide) rfl (fun ls hl => ?_)
        refine lv_goto (tgt := 9) hx0 hb dX4_longestRising_67 (by decide) ?_
        exact ih x1 x2 x3 (x4 + (1 : Int32)) h _ _ _ hW hS (lv_sub hl [1, 2, 3, 4, 0] rfl)
      · rw [if_neg c24] at h
        refine lv_aload_n hx0 hb dX4_longestRising_27 rfl (lv_at hl 0 rfl) ?_
        refine gtX4_0 (k := o0) C hW ho0 flX4_14 dX4_longestRising_28 ?_
        refine lv_iload hx0 hb dX4_longestRising_31 (lv_at hl 4 rfl) ?_
        obtain ⟨v33, h33, h⟩ := bnd h
        try dsimp only at h
        refine w_callV (L := (LC E b)) (k := o0 + 1) (As := [.int x4]) (rest := []) C hW hS (kdlt (chX4_0 ho0) (by decide)) (ccX3 (chX4_0 ho0)) kcX3 (mX3_at (o0 + 1) x4 (chX4_0 ho0) σ v33 h33) cwX3_at cvX3_at rfl mlX4_68 ⟨by decide, by decide⟩ rfl hl.1 (Nat.le_of_ble_eq_true rfl) ⟨by decide, by decide⟩ dX4_longestRising_33 rfl (fun H locs hW hS => ?_)
        refine lv_iload_n hx0 hb dX4_longestRising_36 rfl (lv_at hl 3 rfl) ?_
        refine lv_icmp_ge (tgt := 44) hx0 hb dX4_longestRising_37 (by decide) (fun c37 => ?_) (fun c37 => ?_)
        · rw [if_pos c37] at h
          refine lv_iload_n hx0 hb dX4_longestRising_44 rfl (lv_at hl 2 rfl) ?_
          refine lv_iconst (v := (1 : Int32)) hx0 hb dX4_longestRising_45 (by decide) ?_
          refine lv_iadd hx0 hb dX4_longestRising_46 ?_
          refine lv_istore_n (lv' := [(2, .int (x2 + (1 : Int32))), (0, .ref (b + o0)), (1, .int x1), (3, .int x3), (4, .int x4)]) hx0 hb dX4_longestRising_47 rfl hl (by decide) rfl (fun ls hl => ?_)
          refine lv_aload_n hx0 hb dX4_longestRising_48 rfl (lv_at hl 1 rfl) ?_
          refine gtX4_0 (k := o0) C hW ho0 flX4_14 dX4_longestRising_49 ?_
          refine lv_iload hx0 hb dX4_longestRising_52 (lv_at hl 4 rfl) ?_
          obtain ⟨v54, h54, h⟩ := bnd h
          try dsimp only at h
          refine w_callV (L := (LC E b)) (k := o0 + 1) (As := [.int x4]) (rest := []) C hW hS (kdlt (chX4_0 ho0) (by decide)) (ccX3 (chX4_0 ho0)) kcX3 (mX3_at (o0 + 1) x4 (chX4_0 ho0) σ v54 h54) cwX3_at cvX3_at rfl mlX4_68 ⟨by decide, by decide⟩ rfl hl.1 (Nat.le_of_ble_eq_true rfl) ⟨by decide, by decide⟩ dX4_longestRising_54 rfl (fun H locs hW hS => ?_)
          refine lv_istore_n (lv' := [(3, .int v54), (2, .int (x2 + (1 : Int32))), (0, .ref (b + o0)), (1, .int x1), (4, .int x4)]) hx0 hb dX4_longestRising_57 rfl hl (by decide) rfl (fun ls hl => ?_)
          refine lv_iload_n hx0 hb dX4_longestRising_58 rfl (lv_at hl 3 rfl) ?_
          refine lv_iload_n hx0 hb dX4_longestRising_59 rfl (lv_at hl 1 rfl) ?_
          refine w_mmax C hl.1 mlX4_91 ⟨by decide, Nat.le_of_ble_eq_true rfl⟩ ⟨by decide, by decide⟩ dX4_longestRising_60 ?_
          refine lv_istore_n (lv' := [(1, .int (if x1 < (x2 + (1 : Int32)) then (x2 + (1 : Int32)) else x1)), (3, .int v54), (2, .int (x2 + (1 : Int32))), (0, .ref (b + o0)), (4, .int x4)]) hx0 hb dX4_longestRising_63 rfl hl (by decide) rfl (fun ls hl => ?_)
          refine lv_iinc (v := x4 + (1 : Int32)) (lv' := [(4, .int (x4 + (1 : Int32))), (1, .int (if x1 < (x2 + (1 : Int32)) then (x2 + (1 : Int32)) else x1)), (3, .int v54), (2, .int (x2 + (1 : Int32))), (0, .ref (b + o0))]) hx0 hb dX4_longestRising_64 hl (k := 4) rfl rfl (by decide) rfl (fun ls hl => ?_)
          refine lv_goto (tgt := 9) hx0 hb dX4_longestRising_67 (by decide) ?_
          exact ih (if x1 < (x2 + (1 : Int32)) then (x2 + (1 : Int32)) else x1) (x2 + (1 : Int32)) v54 (x4 + (1 : Int32)) h _ _ _ hW hS (lv_sub hl [4, 1, 3, 2, 0] rfl)
        · rw [if_neg c37] at h
          refine lv_iconst (v := (1 : Int32)) hx0 hb dX4_longestRising_40 (by decide) ?_
          refine lv_goto (tgt := 47) hx0 hb dX4_longestRising_41 (by decide) ?_
          refine lv_istore_n (lv' := [(2, .int (1 : Int32)), (0, .ref (b + o0)), (1, .int x1), (3, .int x3), (4, .int x4)]) hx0 hb dX4_longestRising_47 rfl hl (by decide) rfl (fun ls hl => ?_)
          refine lv_aload_n hx0 hb dX4_longestRising_48 rfl (lv_at hl 1 rfl) ?_
          refine gtX4_0 (k := o0) C hW ho0 flX4_14 dX4_longestRising_49 ?_
          refine lv_iload hx0 hb dX4_longestRising_52 (lv_at hl 4 rfl) ?_
          obtain ⟨v54, h54, h⟩ := bnd h
          try dsimp only at h
          refine w_callV (L := (LC E b)) (k := o0 + 1) (As := [.int x4]) (rest := []) C hW hS (kdlt (chX4_0 ho0) (by decide)) (ccX3 (chX4_0 ho0)) kcX3 (mX3_at (o0 + 1) x4 (chX4_0 ho0) σ v54 h54) cwX3_at cvX3_at rfl mlX4_68 ⟨by decide, by decide⟩ rfl hl.1 (Nat.le_of_ble_eq_true rfl) ⟨by decide, by decide⟩ dX4_longestRising_54 rfl (fun H locs hW hS => ?_)
          refine lv_istore_n (lv' := [(3, .int v54), (2, .int (1 : Int32)), (0, .ref (b + o0)), (1, .int x1), (4, .int x4)]) hx0 hb dX4_longestRising_57 rfl hl (by decide) rfl (fun ls hl => ?_)
          refine lv_iload_n hx0 hb dX4_longestRising_58 rfl (lv_at hl 3 rfl) ?_
          refine lv_iload_n hx0 hb dX4_longestRising_59 rfl (lv_at hl 1 rfl) ?_
          refine w_mmax C hl.1 mlX4_91 ⟨by decide, Nat.le_of_ble_eq_true rfl⟩ ⟨by decide, by decide⟩ dX4_longestRising_60 ?_
          refine lv_istore_n (lv' := [(1, .int (if x1 < (1 : Int32) then (1 : Int32) else x1)), (3, .int v54), (2, .int (1 : Int32)), (0, .ref (b + o0)), (4, .int x4)]) hx0 hb dX4_longestRising_63 rfl hl (by decide) rfl (fun ls hl => ?_)
          refine lv_iinc (v := x4 + (1 : Int32)) (lv' := [(4, .int (x4 + (1 : Int32))), (1, .int (if x1 < (1 : Int32) then (1 : Int32) else x1)), (3, .int v54), (2, .int (1 : Int32)), (0, .ref (b + o0))]) hx0 hb dX4_longestRising_64 hl (k := 4) rfl rfl (by decide) rfl (fun ls hl => ?_)
          refine lv_goto (tgt := 9) hx0 hb dX4_longestRising_67 (by decide) ?_
          exact ih (if x1 < (1 : Int32) then (1 : Int32) else x1) (1 : Int32) v54 (x4 + (1 : Int32)) h _ _ _ hW hS (lv_sub hl [4, 1, 3, 2, 0] rfl)
def fX4_longestRising (o0 : Nat) (σ : Mem) : Option Int32 :=
  (fX4_longestRising_l9 o0 FU (0 : Int32) (0 : Int32) (-1 : Int32) (0 : Int32) σ).bind fun q9 => some q9.1
set_option maxRecDepth 100000 in
set_option maxHeartbeats 4000000 in
theorem mX4_longestRising {l : Launch} {E : Ev} {b : Nat} (o0 : Nat) (ho0 : kd o0 = 4) (σ : Mem) (r : Int32) (h : fX4_longestRising o0 σ = some r) : Met l yX4_longestRising (tw yX4_longestRising cX4_longestRising 5 (some .int)) { frames := 2, cells := 0, slots := 0, locals := 42 } (va_Pc [.ref (b + o0)] (Pr l E (LC E b) σ)) (Qz E (LC E b) (some (.int r)) σ) 0 0 (La (LC E b)) := by
  refine ct_of (by decide) (Nat.le_of_ble_eq_true rfl) ?_
  intro p e s m below meth c C hW hS ls hl
  have hx0 := C.1
  have hb := C.2.1
  have hl : lv_has ls 5 [(0, .ref (b + o0))] := hl
  unfold fX4_longestRising at h
  refine lv_iconst (v := (0 : Int32)) hx0 hb dX4_longestRising_0 (by decide) ?_
  refine lv_istore_n (lv' := [(1, .int (0 : Int32)), (0, .ref (b + o0))]) hx0 hb dX4_longestRising_1 rfl hl (by decide) rfl (fun ls hl => ?_)
  refine lv_iconst (v := (0 : Int32)) hx0 hb dX4_longestRising_2 (by decide) ?_
  refine lv_istore_n (lv' := [(2, .int (0 : Int32)), (1, .int (0 : Int32)), (0, .ref (b + o0))]) hx0 hb dX4_longestRising_3 rfl hl (by decide) rfl (fun ls hl => ?_)
  refine lv_iconst (v := (-1 : Int32)) hx0 hb dX4_longestRising_4 (by decide) ?_
  refine lv_istore_n (lv' := [(3, .int (-1 : Int32)), (2, .int (0 : Int32)), (1, .int (0 : Int32)), (0, .ref (b + o0))]) hx0 hb dX4_longestRising_5 rfl hl (by decide) rfl (fun ls hl => ?_)
  refine lv_iconst (v := (0 : Int32)) hx0 hb dX4_longestRising_6 (by decide) ?_
  refine lv_istore (lv' := [(4, .int (0 : Int32)), (3, .int (-1 : Int32)), (2, .int (0 : Int32)), (1, .int (0 : Int32)), (0, .ref (b + o0))]) hx0 hb dX4_longestRising_7 hl (by decide) rfl (fun ls hl => ?_)
  obtain ⟨q9, h9, h⟩ := bnd h
  try dsimp only at h
  refine bX4_longestRising_l9 C o0 ho0 σ (q := q9) ?_ FU (0 : Int32) (0 : Int32) (-1 : Int32) (0 : Int32) h9 _ _ _ hW hS (lv_sub hl [4, 3, 2, 1, 0] rfl)
  intro H locs ls hW hS hl
  refine lv_iload_n hx0 hb dX4_longestRising_70 rfl (lv_at hl 1 rfl) ?_
  cases h
  exact w_iret C hW hS dX4_longestRising_71
def fX4_sortKey (o0 : Nat) (x1 : Int32) (σ : Mem) : Option Int32 :=
  (fX4_isPlaced o0 x1 σ).bind fun v2 => if v2 = 0 then (some (144 : Int32)) else ((fX3_at (o0 + 1) x1 σ).bind fun v13 => some v13)
set_option maxRecDepth 100000 in
set_option maxHeartbeats 4000000 in
theorem mX4_sortKey {l : Launch} {E : Ev} {b : Nat} (o0 : Nat) (x1 : Int32) (ho0 : kd o0 = 4) (σ : Mem) (r : Int32) (h : fX4_sortKey o0 x1 σ = some r) : Met l yX4_sortKey (tw yX4_sortKey cX4_sortKey 2 (some .int)) { frames := 2, cells := 0, slots := 0, locals := 42 } (va_Pc [.ref (b + o0), .int x1] (Pr l E (LC E b) σ)) (Qz E (LC E b) (some (.int r)) σ) 0 0 (La (LC E b)) := by
  refine ct_of (by decide) (Nat.le_of_ble_eq_true rfl) ?_
  intro p e s m below meth c C hW hS ls hl
  have hx0 := C.1
  have hb := C.2.1
  have hl : lv_has ls 2 [(0, .ref (b + o0)), (1, .int x1)] := hl
  unfold fX4_sortKey at h
  refine lv_aload_n hx0 hb dX4_sortKey_0 rfl (lv_at hl 0 rfl) ?_
  refine lv_iload_n hx0 hb dX4_sortKey_1 rfl (lv_at hl 1 rfl) ?_
  obtain ⟨v2, h2, h⟩ := bnd h
  try dsimp only at h
  refine w_callV (L := (LC E b)) (k := o0) (As := [.int x1]) (rest := []) C hW hS (kdlt ho0 (by decide)) (ccX4 ho0) kcX4 (mX4_isPlaced o0 x1 ho0 σ v2 h2) cwX4_isPlaced cvX4_isPlaced rfl mlX4_81 ⟨by decide, by decide⟩ rfl hl.1 (Nat.le_of_ble_eq_true rfl) ⟨by decide, by decide⟩ dX4_sortKey_2 rfl (fun H locs hW hS => ?_)
  refine lv_if_eq (tgt := 19) hx0 hb dX4_sortKey_5 (by decide) (fun c5 => ?_) (fun c5 => ?_)
  · rw [if_pos c5] at h
    refine lv_sipush (v := (144 : Int32)) hx0 hb dX4_sortKey_19 (by decide) ?_
    cases h
    exact w_iret C hW hS dX4_sortKey_22
  · rw [if_neg c5] at h
    refine lv_aload_n hx0 hb dX4_sortKey_8 rfl (lv_at hl 0 rfl) ?_
    refine gtX4_0 (k := o0) C hW ho0 flX4_14 dX4_sortKey_9 ?_
    refine lv_iload_n hx0 hb dX4_sortKey_12 rfl (lv_at hl 1 rfl) ?_
    obtain ⟨v13, h13, h⟩ := bnd h
    try dsimp only at h
    refine w_callV (L := (LC E b)) (k := o0 + 1) (As := [.int x1]) (rest := []) C hW hS (kdlt (chX4_0 ho0) (by decide)) (ccX3 (chX4_0 ho0)) kcX3 (mX3_at (o0 + 1) x1 (chX4_0 ho0) σ v13 h13) cwX3_at cvX3_at rfl mlX4_68 ⟨by decide, by decide⟩ rfl hl.1 (Nat.le_of_ble_eq_true rfl) ⟨by decide, by decide⟩ dX4_sortKey_13 rfl (fun H locs hW hS => ?_)
    refine lv_goto (tgt := 22) hx0 hb dX4_sortKey_16 (by decide) ?_
    cases h
    exact w_iret C hW hS dX4_sortKey_22
def fX4_rankScans_l12 (o0 : Nat) (x1 : Int32) : Nat → Int32 → Mem → Option (Int32 × Mem)
  | 0, _, _ => none
  | n + 1, x2, σ => if x2 ≤ 0 then (some (x2, σ)) else ((fX3_at (o0 + 9) (x2 - (1 : Int32)) σ).bind fun v24 => (fX4_sortKey o0 v24 σ).bind fun v27 => (fX4_sortKey o0 x1 σ).bind fun v32 => if v27 ≤ v32 then (some (x2, σ)) else ((fX3_at (o0 + 9) (x2 - (1 : Int32)) σ).bind fun v50 => (fX3_put (o0 + 9) x2 v50 σ).bind fun v53 => fX4_rankScans_l12 o0 x1 n (x2 + (-1 : Int32)) v53))
set_option maxRecDepth 100000 in
set_option maxHeartbeats 4000000 in
theorem bX4_rankScans_l12 {p : Program} {l : Launch} {e : Env} {s : State} {m : MethodId} {args : Array Value} {below : List Frame} {meth : Method} {c : Code} {E : Ev} {b : Nat} (C : Cx p l s m args meth c E cX4_rankScans 3 RX4 (some .int)) (o0 : Nat) (x1 : Int32) (ho0 : kd o0 = 4) {Qf : State → Prop} {q : Int32 × Mem} (hx : ∀ H locs ls, Wd E (LC E b) q.2 H → va_S (La (LC E b)) s.heap H locs → lv_has ls 3 [(0, .ref (b + o0)), (1, .int x1), (2, .int q.1)] → W p l e { frames := 3, cells := 0, slots := 0, locals := 63 } s m args below meth c H locs 0 0 Qf (F0 m 62 ls [])) : ∀ (n : Nat) (x2 : Int32) (σ : Mem), fX4_rankScans_l12 o0 x1 n x2 σ = some q → ∀ (H : Heap) (locs : List Loc) (ls : Array Slot), Wd E (LC E b) σ H → va_S (La (LC E b)) s.heap H locs → lv_has ls 3 [(0, .ref (b + o0)), (1, .int x1), (2, .int x2)] → W p l e { frames := 3, cells := 0, slots := 0, locals := 63 } s m args below meth c H locs 0 0 Qf (F0 m 12 ls []) := by
  have hx0 := C.1
  have hb := C.2.1
  intro n
  induction n with
  | zero => intro x2 σ h; simp [fX4_rankScans_l12] at h
  | succ n ih =>
    intro x2 σ h H locs ls hW hS hl
    unfold fX4_rankScans_l12 at h
    refine lv_iload_n hx0 hb dX4_rankScans_12 rfl (lv_at hl 2 rfl) ?_
    refine lv_if_le (tgt := 62) hx0 hb dX4_rankScans_13 (by decide) (fun c13 => ?_) (fun c13 => ?_)
    · rw [if_pos c13] at h
      cases h
      exact hx _ _ _ hW hS (lv_sub hl [0, 1, 2] rfl)
    · rw [if_neg c13] at h
      refine lv_aload_n hx0 hb dX4_rankScans_16 rfl (lv_at hl 0 rfl) ?_
      refine lv_aload_n hx0 hb dX4_rankScans_17 rfl (lv_at hl 0 rfl) ?_
      refine gtX4_4 (k := o0) C hW ho0 flX4_29 dX4_rankScans_18 ?_
      refine lv_iload_n hx0 hb dX4_rankScans_21 rfl (lv_at hl 2 rfl) ?_
      refine lv_iconst (v := (1 : Int32)) hx0 hb dX4_rankScans_22 (by decide) ?_
      refine lv_isub hx0 hb dX4_rankScans_23 ?_
      obtain ⟨v24, h24, h⟩ := bnd h
      try dsimp only at h
      refine w_callV (L := (LC E b)) (k := o0 + 9) (As := [.int (x2 - (1 : Int32))]) (rest := [.ref (b + o0)]) C hW hS (kdlt (chX4_4 ho0) (by decide)) (ccX3 (chX4_4 ho0)) kcX3 (mX3_at (o0 + 9) (x2 - (1 : Int32)) (chX4_4 ho0) σ v24 h24) cwX3_at cvX3_at rfl mlX4_68 ⟨by decide, by decide⟩ rfl hl.1 (Nat.le_of_ble_eq_true rfl) ⟨by decide, by decide⟩ dX4_rankScans_24 rfl (fun H locs hW hS => ?_)
      obtain ⟨v27, h27, h⟩ := bnd h
      try dsimp only at h
      refine w_callV (L := (LC E b)) (k := o0) (As := [.int v24]) (rest := []) C hW hS (kdlt ho0 (by decide)) (ccX4 ho0) kcX4 (mX4_sortKey o0 v24 ho0 σ v27 h27) cwX4_sortKey cvX4_sortKey rfl mlX4_96 ⟨by decide, by decide⟩ rfl hl.1 (Nat.le_of_ble_eq_true rfl) ⟨by decide, by decide⟩ dX4_rankScans_27 rfl (fun H locs hW hS => ?_)
      refine lv_aload_n hx0 hb dX4_rankScans_30 rfl (lv_at hl 0 rfl) ?_
      refine lv_iload_n hx0 hb dX4_rankScans_31 rfl (lv_at hl 1 rfl) ?_
      obtain ⟨v32, h32, h⟩ := bnd h
      try dsimp only at h
      refine w_callV (L := (LC E b)) (k := o0) (As := [.int x1]) (rest := [.int v27]) C hW hS (kdlt ho0 (by decide)) (ccX4 ho0) kcX4 (mX4_sortKey o0 x1 ho0 σ v32 h32) cwX4_sortKey cvX4_sortKey rfl mlX4_96 ⟨by decide, by decide⟩ rfl hl.1 (Nat.le_of_ble_eq_true rfl) ⟨by decide, by decide⟩ dX4_rankScans_32 rfl (fun H locs hW hS => ?_)
      refine lv_icmp_le (tgt := 62) hx0 hb dX4_rankScans_35 (by decide) (fun c35 => ?_) (fun c35 => ?_)
      · rw [if_pos c35] at h
        cases h
        exact hx _ _ _ hW hS (lv_sub hl [0, 1, 2] rfl)
      · rw [if_neg c35] at h
        refine lv_aload_n hx0 hb dX4_rankScans_38 rfl (lv_at hl 0 rfl) ?_
        refine gtX4_4 (k := o0) C hW ho0 flX4_29 dX4_rankScans_39 ?_
        refine lv_iload_n hx0 hb dX4_rankScans_42 rfl (lv_at hl 2 rfl) ?_
        refine lv_aload_n hx0 hb dX4_rankScans_43 rfl (lv_at hl 0 rfl) ?_
        refine gtX4_4 (k := o0) C hW ho0 flX4_29 dX4_rankScans_44 ?_
        refine lv_iload_n hx0 hb dX4_rankScans_47 rfl (lv_at hl 2 rfl) ?_
        refine lv_iconst (v := (1 : Int32)) hx0 hb dX4_rankScans_48 (by decide) ?_
        refine lv_isub hx0 hb dX4_rankScans_49 ?_
        obtain ⟨v50, h50, h⟩ := bnd h
        try dsimp only at h
        refine w_callV (L := (LC E b)) (k := o0 + 9) (As := [.int (x2 - (1 : Int32))]) (rest := [.int x2, .ref (b + (o0 + 9))]) C hW hS (kdlt (chX4_4 ho0) (by decide)) (ccX3 (chX4_4 ho0)) kcX3 (mX3_at (o0 + 9) (x2 - (1 : Int32)) (chX4_4 ho0) σ v50 h50) cwX3_at cvX3_at rfl mlX4_68 ⟨by decide, by decide⟩ rfl hl.1 (Nat.le_of_ble_eq_true rfl) ⟨by decide, by decide⟩ dX4_rankScans_50 rfl (fun H locs hW hS => ?_)
        obtain ⟨v53, h53, h⟩ := bnd h
        try dsimp only at h
        refine w_callV (L := (LC E b)) (k := o0 + 9) (As := [.int x2, .int v50]) (rest := []) C hW hS (kdlt (chX4_4 ho0) (by decide)) (ccX3 (chX4_4 ho0)) kcX3 (mX3_put (o0 + 9) x2 v50 (chX4_4 ho0) σ v53 h53) cwX3_put cvX3_put rfl mlX4_64 ⟨by decide, by decide⟩ rfl hl.1 (Nat.le_of_ble_eq_true rfl) ⟨by decide, by decide⟩ dX4_rankScans_53 rfl (fun H locs hW hS => ?_)
        refine lv_iinc (v := x2 + (-1 : Int32)) (lv' := [(2, .int (x2 + (-1 : Int32))), (0, .ref (b + o0)), (1, .int x1)]) hx0 hb dX4_rankScans_56 hl (k := 2) rfl rfl (by decide) rfl (fun ls hl => ?_)
        refine lv_goto (tgt := 12) hx0 hb dX4_rankScans_59 (by decide) ?_
        exact ih (x2 + (-1 : Int32)) v53 h _ _ _ hW hS (lv_sub hl [1, 2, 0] rfl)
def fX4_rankScans_l2 (o0 : Nat) : Nat → Int32 → Mem → Option (Int32 × Mem)
  | 0, _, _ => none
  | n + 1, x1, σ => if (σ o0 5) ≤ x1 then (some (x1, σ)) else ((fX4_rankScans_l12 o0 x1 FU x1 σ).bind fun q12 => (fX3_put (o0 + 9) q12.1 x1 q12.2).bind fun v68 => fX4_rankScans_l2 o0 n (x1 + (1 : Int32)) v68)
set_option maxRecDepth 100000 in
set_option maxHeartbeats 4000000 in
theorem bX4_rankScans_l2 {p : Program} {l : Launch} {e : Env} {s : State} {m : MethodId} {args : Array Value} {below : List Frame} {meth : Method} {c : Code} {E : Ev} {b : Nat} (C : Cx p l s m args meth c E cX4_rankScans 3 RX4 (some .int)) (o0 : Nat) (ho0 : kd o0 = 4) {Qf : State → Prop} {q : Int32 × Mem} (hx : ∀ H locs ls, Wd E (LC E b) q.2 H → va_S (La (LC E b)) s.heap H locs → lv_has ls 3 [(0, .ref (b + o0)), (1, .int q.1)] → W p l e { frames := 3, cells := 0, slots := 0, locals := 63 } s m args below meth c H locs 0 0 Qf (F0 m 77 ls [])) : ∀ (n : Nat) (x1 : Int32) (σ : Mem), fX4_rankScans_l2 o0 n x1 σ = some q → ∀ (H : Heap) (locs : List Loc) (ls : Array Slot), Wd E (LC E b) σ H → va_S (La (LC E b)) s.heap H locs → lv_has ls 3 [(0, .ref (b + o0)), (1, .int x1)] → W p l e { frames := 3, cells := 0, slots := 0, locals := 63 } s m args below meth c H locs 0 0 Qf (F0 m 2 ls []) := by
  have hx0 := C.1
  have hb := C.2.1
  intro n
  induction n with
  | zero => intro x1 σ h; simp [fX4_rankScans_l2] at h
  | succ n ih =>
    intro x1 σ h H locs ls hW hS hl
    unfold fX4_rankScans_l2 at h
    refine lv_iload_n hx0 hb dX4_rankScans_2 rfl (lv_at hl 1 rfl) ?_
    refine lv_aload_n hx0 hb dX4_rankScans_3 rfl (lv_at hl 0 rfl) ?_
    refine gtX4_5 (k := o0) C hW ho0 flX4_32 dX4_rankScans_4 ?_
    refine lv_icmp_ge (tgt := 77) hx0 hb dX4_rankScans_7 (by decide) (fun c7 => ?_) (fun c7 => ?_)
    · rw [if_pos c7] at h
      cases h
      exact hx _ _ _ hW hS (lv_sub hl [0, 1] rfl)
    · rw [if_neg c7] at h
      refine lv_iload_n hx0 hb dX4_rankScans_10 rfl (lv_at hl 1 rfl) ?_
      refine lv_istore_n (lv' := [(2, .int x1), (0, .ref (b + o0)), (1, .int x1)]) hx0 hb dX4_rankScans_11 rfl hl (by decide) rfl (fun ls hl => ?_)
      obtain ⟨q12, h12, h⟩ := bnd h
      try dsimp only at h
      refine bX4_rankScans_l12 C o0 x1 ho0 (q := q12) ?_ FU x1 σ h12 _ _ _ hW hS (lv_sub hl [1, 2, 0] rfl)
      intro H locs ls hW hS hl
      refine lv_aload_n hx0 hb dX4_rankScans_62 rfl (lv_at hl 0 rfl) ?_
      refine gtX4_4 (k := o0) C hW ho0 flX4_29 dX4_rankScans_63 ?_
      refine lv_iload_n hx0 hb dX4_rankScans_66 rfl (lv_at hl 2 rfl) ?_
      refine lv_iload_n hx0 hb dX4_rankScans_67 rfl (lv_at hl 1 rfl) ?_
      obtain ⟨v68, h68, h⟩ := bnd h
      try dsimp only at h
      refine w_callV (L := (LC E b)) (k := o0 + 9) (As := [.int q12.1, .int x1]) (rest := []) C hW hS (kdlt (chX4_4 ho0) (by decide)) (ccX3 (chX4_4 ho0)) kcX3 (mX3_put (o0 + 9) q12.1 x1 (chX4_4 ho0) q12.2 v68 h68) cwX3_put cvX3_put rfl mlX4_64 ⟨by decide, by decide⟩ rfl hl.1 (Nat.le_of_ble_eq_true rfl) ⟨by decide, by decide⟩ dX4_rankScans_68 rfl (fun H locs hW hS => ?_)
      refine lv_iinc (v := x1 + (1 : Int32)) (lv' := [(1, .int (x1 + (1 : Int32))), (0, .ref (b + o0)), (2, .int q12.1)]) hx0 hb dX4_rankScans_71 hl (k := 1) rfl rfl (by decide) rfl (fun ls hl => ?_)
      refine lv_goto (tgt := 2) hx0 hb dX4_rankScans_74 (by decide) ?_
      exact ih (x1 + (1 : Int32)) v68 h _ _ _ hW hS (lv_sub hl [1, 0] rfl)
def fX4_rankScans_l81 (o0 : Nat) : Nat → Int32 → Int32 → Mem → Option (Int32 × Int32)
  | 0, _, _, _ => none
  | n + 1, x1, x2, σ => if (σ o0 5) ≤ x2 then (some (x1, x2)) else ((fX3_at (o0 + 9) x2 σ).bind fun v94 => if v94 = x2 then (fX4_rankScans_l81 o0 n x1 (x2 + (1 : Int32)) σ) else (fX4_rankScans_l81 o0 n (x1 + (1 : Int32)) (x2 + (1 : Int32)) σ))
set_option maxRecDepth 100000 in
set_option maxHeartbeats 4000000 in
theorem bX4_rankScans_l81 {p : Program} {l : Launch} {e : Env} {s : State} {m : MethodId} {args : Array Value} {below : List Frame} {meth : Method} {c : Code} {E : Ev} {b : Nat} (C : Cx p l s m args meth c E cX4_rankScans 3 RX4 (some .int)) (o0 : Nat) (ho0 : kd o0 = 4) (σ : Mem) {Qf : State → Prop} {q : Int32 × Int32} (hx : ∀ H locs ls, Wd E (LC E b) σ H → va_S (La (LC E b)) s.heap H locs → lv_has ls 3 [(0, .ref (b + o0)), (1, .int q.1), (2, .int q.2)] → W p l e { frames := 3, cells := 0, slots := 0, locals := 63 } s m args below meth c H locs 0 0 Qf (F0 m 110 ls [])) : ∀ (n : Nat) (x1 : Int32) (x2 : Int32), fX4_rankScans_l81 o0 n x1 x2 σ = some q → ∀ (H : Heap) (locs : List Loc) (ls : Array Slot), Wd E (LC E b) σ H → va_S (La (LC E b)) s.heap H locs → lv_has ls 3 [(0, .ref (b + o0)), (1, .int x1), (2, .int x2)] → W p l e { frames := 3, cells := 0, slots := 0, locals := 63 } s m args below meth c H locs 0 0 Qf (F0 m 81 ls []) := by
  have hx0 := C.1
  have hb := C.2.1
  intro n
  induction n with
  | zero => intro x1 x2 h; simp [fX4_rankScans_l81] at h
  | succ n ih =>
    intro x1 x2 h H locs ls hW hS hl
    unfold fX4_rankScans_l81 at h
    refine lv_iload_n hx0 hb dX4_rankScans_81 rfl (lv_at hl 2 rfl) ?_
    refine lv_aload_n hx0 hb dX4_rankScans_82 rfl (lv_at hl 0 rfl) ?_
    refine gtX4_5 (k := o0) C hW ho0 flX4_32 dX4_rankScans_83 ?_
    refine lv_icmp_ge (tgt := 110) hx0 hb dX4_rankScans_86 (by decide) (fun c86 => ?_) (fun c86 => ?_)
    · rw [if_pos c86] at h
      cases h
      exact hx _ _ _ hW hS (lv_sub hl [0, 1, 2] rfl)
    · rw [if_neg c86] at h
      refine lv_aload_n hx0 hb dX4_rankScans_89 rfl (lv_at hl 0 rfl) ?_
      refine gtX4_4 (k := o0) C hW ho0 flX4_29 dX4_rankScans_90 ?_
      refine lv_iload_n hx0 hb dX4_rankScans_93 rfl (lv_at hl 2 rfl) ?_
      obtain ⟨v94, h94, h⟩ := bnd h
      try dsimp only at h
      refine w_callV (L := (LC E b)) (k := o0 + 9) (As := [.int x2]) (rest := []) C hW hS (kdlt (chX4_4 ho0) (by decide)) (ccX3 (chX4_4 ho0)) kcX3 (mX3_at (o0 + 9) x2 (chX4_4 ho0) σ v94 h94) cwX3_at cvX3_at rfl mlX4_68 ⟨by decide, by decide⟩ rfl hl.1 (Nat.le_of_ble_eq_true rfl) ⟨by decide, by decide⟩ dX4_rankScans_94 rfl (fun H locs hW hS => ?_)
      refine lv_iload_n hx0 hb dX4_rankScans_97 rfl (lv_at hl 2 rfl) ?_
      refine lv_icmp_eq (tgt := 104) hx0 hb dX4_rankScans_98 (by decide) (fun c98 => ?_) (fun c98 => ?_)
      · rw [if_pos c98] at h
        refine lv_iinc (v := x2 + (1 : Int32)) (lv' := [(2, .int (x2 + (1 : Int32))), (0, .ref (b + o0)), (1, .int x1)]) hx0 hb dX4_rankScans_104 hl (k := 2) rfl rfl (by decide) rfl (fun ls hl => ?_)
        refine lv_goto (tgt := 81) hx0 hb dX4_rankScans_107 (by decide) ?_
        exact ih x1 (x2 + (1 : Int32)) h _ _ _ hW hS (lv_sub hl [1, 2, 0] rfl)
      · rw [if_neg c98] at h
        refine lv_iinc (v := x1 + (1 : Int32)) (lv' := [(1, .int (x1 + (1 : Int32))), (0, .ref (b + o0)), (2, .int x2)]) hx0 hb dX4_rankScans_101 hl (k := 1) rfl rfl (by decide) rfl (fun ls hl => ?_)
        refine lv_iinc (v := x2 + (1 : Int32)) (lv' := [(2, .int (x2 + (1 : Int32))), (1, .int (x1 + (1 : Int32))), (0, .ref (b + o0))]) hx0 hb dX4_rankScans_104 hl (k := 2) rfl rfl (by decide) rfl (fun ls hl => ?_)
        refine lv_goto (tgt := 81) hx0 hb dX4_rankScans_107 (by decide) ?_
        exact ih (x1 + (1 : Int32)) (x2 + (1 : Int32)) h _ _ _ hW hS (lv_sub hl [2, 1, 0] rfl)
def fX4_rankScans (o0 : Nat) (σ : Mem) : Option (Int32 × Mem) :=
  (fX4_rankScans_l2 o0 FU (0 : Int32) σ).bind fun q2 => (fX4_rankScans_l81 o0 FU (0 : Int32) (0 : Int32) q2.2).bind fun q81 => some (q81.1, q2.2)
set_option maxRecDepth 100000 in
set_option maxHeartbeats 4000000 in
theorem mX4_rankScans {l : Launch} {E : Ev} {b : Nat} (o0 : Nat) (ho0 : kd o0 = 4) (σ : Mem) (r : (Int32 × Mem)) (h : fX4_rankScans o0 σ = some r) : Met l yX4_rankScans (tw yX4_rankScans cX4_rankScans 3 (some .int)) { frames := 3, cells := 0, slots := 0, locals := 63 } (va_Pc [.ref (b + o0)] (Pr l E (LC E b) σ)) (Qz E (LC E b) (some (.int r.1)) r.2) 0 0 (La (LC E b)) := by
  refine ct_of (by decide) (Nat.le_of_ble_eq_true rfl) ?_
  intro p e s m below meth c C hW hS ls hl
  have hx0 := C.1
  have hb := C.2.1
  have hl : lv_has ls 3 [(0, .ref (b + o0))] := hl
  unfold fX4_rankScans at h
  refine lv_iconst (v := (0 : Int32)) hx0 hb dX4_rankScans_0 (by decide) ?_
  refine lv_istore_n (lv' := [(1, .int (0 : Int32)), (0, .ref (b + o0))]) hx0 hb dX4_rankScans_1 rfl hl (by decide) rfl (fun ls hl => ?_)
  obtain ⟨q2, h2, h⟩ := bnd h
  try dsimp only at h
  refine bX4_rankScans_l2 C o0 ho0 (q := q2) ?_ FU (0 : Int32) σ h2 _ _ _ hW hS (lv_sub hl [1, 0] rfl)
  intro H locs ls hW hS hl
  refine lv_iconst (v := (0 : Int32)) hx0 hb dX4_rankScans_77 (by decide) ?_
  refine lv_istore_n (lv' := [(1, .int (0 : Int32)), (0, .ref (b + o0))]) hx0 hb dX4_rankScans_78 rfl hl (by decide) rfl (fun ls hl => ?_)
  refine lv_iconst (v := (0 : Int32)) hx0 hb dX4_rankScans_79 (by decide) ?_
  refine lv_istore_n (lv' := [(2, .int (0 : Int32)), (1, .int (0 : Int32)), (0, .ref (b + o0))]) hx0 hb dX4_rankScans_80 rfl hl (by decide) rfl (fun ls hl => ?_)
  obtain ⟨q81, h81, h⟩ := bnd h
  try dsimp only at h
  refine bX4_rankScans_l81 C o0 ho0 q2.2 (q := q81) ?_ FU (0 : Int32) (0 : Int32) h81 _ _ _ hW hS (lv_sub hl [2, 1, 0] rfl)
  intro H locs ls hW hS hl
  refine lv_iload_n hx0 hb dX4_rankScans_110 rfl (lv_at hl 1 rfl) ?_
  cases h
  exact w_iret C hW hS dX4_rankScans_111
