/-! the reference, by program out of the bytecode -/
def fX12_hasSlipRead_l2 (x1 : Int32) : Nat → Int32 → Mem → Option (Int32 ⊕ (Int32))
  | 0, _, _ => none
  | n + 1, x2, σ => if (0 : Int32) < 0 ∨ lm 4 ≤ (0 : Int32).toNatClampNeg then none else if (σ 4 (0 : Int32).toNatClampNeg) ≤ x2 then (some (.inr x2)) else (if ((5 : Int32) + ((3 : Int32) * x2)) < 0 ∨ lm 4 ≤ ((5 : Int32) + ((3 : Int32) * x2)).toNatClampNeg then none else if (σ 4 ((5 : Int32) + ((3 : Int32) * x2)).toNatClampNeg) = x1 then (some (.inl (1 : Int32))) else (fX12_hasSlipRead_l2 x1 n (x2 + (1 : Int32)) σ))
set_option maxRecDepth 100000 in
set_option maxHeartbeats 4000000 in
theorem bX12_hasSlipRead_l2 {p : Program} {l : Launch} {e : Env} {s : State} {m : MethodId} {args : Array Value} {below : List Frame} {meth : Method} {c : Code} {E : Ev} {b : Nat} (C : Cx p l s m args meth c E cX12_hasSlipRead 3 RX12 (some .boolean)) (x1 : Int32) (σ : Mem) (r0 : Int32) {q0 : Int32 ⊕ (Int32)} (hr : ∀ r, q0 = .inl r → r = r0) (hx : ∀ q, q0 = .inr q → ∀ H locs ls, Wd E (LM E b) σ H → va_S (La (LM E b)) s.heap H locs → lv_has ls 3 [(0, .ref (b + 0)), (1, .int x1), (2, .int q)] → W p l e { frames := 0, cells := 0, slots := 0, locals := 0 } s m args below meth c H locs 0 0 (MQ below (Qz E (LM E b) (some (.int r0)) σ) args s 0 0 (La (LM E b))) (F0 m 34 ls [])) : ∀ (n : Nat) (x2 : Int32), fX12_hasSlipRead_l2 x1 n x2 σ = some q0 → ∀ (H : Heap) (locs : List Loc) (ls : Array Slot), Wd E (LM E b) σ H → va_S (La (LM E b)) s.heap H locs → lv_has ls 3 [(0, .ref (b + 0)), (1, .int x1), (2, .int x2)] → W p l e { frames := 0, cells := 0, slots := 0, locals := 0 } s m args below meth c H locs 0 0 (MQ below (Qz E (LM E b) (some (.int r0)) σ) args s 0 0 (La (LM E b))) (F0 m 2 ls []) := by
  have hx0 := C.1
  have hb := C.2.1
  intro n
  induction n with
  | zero => intro x2 h; simp [fX12_hasSlipRead_l2] at h
  | succ n ih =>
    intro x2 h H locs ls hW hS hl
    unfold fX12_hasSlipRead_l2 at h
    refine lv_iload_n hx0 hb dX12_hasSlipRead_2 rfl (lv_at hl 2 rfl) ?_
    refine lv_aload_n hx0 hb dX12_hasSlipRead_3 rfl (lv_at hl 0 rfl) ?_
    refine gtX12_6 C hW flX12_23 dX12_hasSlipRead_4 ?_
    refine lv_iconst (v := (0 : Int32)) hx0 hb dX12_hasSlipRead_7 (by decide) ?_
    by_cases z8 : (0 : Int32) < 0 ∨ lm 4 ≤ (0 : Int32).toNatClampNeg
    · rw [if_pos z8] at h; cases h
    rw [if_neg z8] at h
    refine ldIm (k := 4) C hW (by decide) z8 dX12_hasSlipRead_8 ?_
    refine lv_icmp_ge (tgt := 34) hx0 hb dX12_hasSlipRead_9 (by decide) (fun c9 => ?_) (fun c9 => ?_)
    · rw [if_pos c9] at h
      cases h
      exact hx _ rfl _ _ _ hW hS (lv_sub hl [0, 1, 2] rfl)
    · rw [if_neg c9] at h
      refine lv_aload_n hx0 hb dX12_hasSlipRead_12 rfl (lv_at hl 0 rfl) ?_
      refine gtX12_6 C hW flX12_23 dX12_hasSlipRead_13 ?_
      refine lv_iconst (v := (5 : Int32)) hx0 hb dX12_hasSlipRead_16 (by decide) ?_
      refine lv_iconst (v := (3 : Int32)) hx0 hb dX12_hasSlipRead_17 (by decide) ?_
      refine lv_iload_n hx0 hb dX12_hasSlipRead_18 rfl (lv_at hl 2 rfl) ?_
      refine lv_imul hx0 hb dX12_hasSlipRead_19 ?_
      refine lv_iadd hx0 hb dX12_hasSlipRead_20 ?_
      by_cases z21 : ((5 : Int32) + ((3 : Int32) * x2)) < 0 ∨ lm 4 ≤ ((5 : Int32) + ((3 : Int32) * x2)).toNatClampNeg
      · rw [if_pos z21] at h; cases h
      rw [if_neg z21] at h
      refine ldIm (k := 4) C hW (by decide) z21 dX12_hasSlipRead_21 ?_
      refine lv_iload_n hx0 hb dX12_hasSlipRead_22 rfl (lv_at hl 1 rfl) ?_
      refine lv_icmp_ne (tgt := 28) hx0 hb dX12_hasSlipRead_23 (by decide) (fun c23 => ?_) (fun c23 => ?_)
      · rw [if_neg c23] at h
        refine lv_iinc (v := x2 + (1 : Int32)) (lv' := [(2, .int (x2 + (1 : Int32))), (0, .ref (b + 0)), (1, .int x1)]) hx0 hb dX12_hasSlipRead_28 hl (k := 2) rfl rfl (by decide) rfl (fun ls hl => ?_)
        refine lv_goto (tgt := 2) hx0 hb dX12_hasSlipRead_31 (by decide) ?_
        exact ih (x2 + (1 : Int32)) h _ _ _ hW hS (lv_sub hl [1, 2, 0] rfl)
      · rw [if_pos c23] at h
        refine lv_iconst (v := (1 : Int32)) hx0 hb dX12_hasSlipRead_26 (by decide) ?_
        cases h
        cases hr _ rfl
        exact w_zret C hW hS (Or.inr rfl) dX12_hasSlipRead_27
def fX12_hasSlipRead (x1 : Int32) (σ : Mem) : Option Int32 :=
  (fX12_hasSlipRead_l2 x1 FU (0 : Int32) σ).bind fun q2 => match q2 with | .inl r => some r | .inr q2 => some (0 : Int32)
set_option maxRecDepth 100000 in
set_option maxHeartbeats 4000000 in
theorem mX12_hasSlipRead {l : Launch} {E : Ev} {b : Nat} (x1 : Int32) (σ : Mem) (r : Int32) (h : fX12_hasSlipRead x1 σ = some r) : Met l yX12_hasSlipRead (tw yX12_hasSlipRead cX12_hasSlipRead 3 (some .boolean)) { frames := 0, cells := 0, slots := 0, locals := 0 } (va_Pc [.ref (b + 0), .int x1] (Pr l E (LM E b) σ)) (Qz E (LM E b) (some (.int r)) σ) 0 0 (La (LM E b)) := by
  refine ct_of (by decide) (Nat.le_of_ble_eq_true rfl) ?_
  intro p e s m below meth c C hW hS ls hl
  have hx0 := C.1
  have hb := C.2.1
  have hl : lv_has ls 3 [(0, .ref (b + 0)), (1, .int x1)] := hl
  unfold fX12_hasSlipRead at h
  refine lv_iconst (v := (0 : Int32)) hx0 hb dX12_hasSlipRead_0 (by decide) ?_
  refine lv_istore_n (lv' := [(2, .int (0 : Int32)), (0, .ref (b + 0)), (1, .int x1)]) hx0 hb dX12_hasSlipRead_1 rfl hl (by decide) rfl (fun ls hl => ?_)
  obtain ⟨q2, h2, h⟩ := bnd h
  refine bX12_hasSlipRead_l2 C x1  σ r (q0 := q2) ?_ ?_ FU (0 : Int32) h2 _ _ _ hW hS (lv_sub hl [1, 2, 0] rfl)
  · intro r1 hq; subst hq; (try dsimp only at h); exact Option.some.inj h
  · intro q2 hq H locs ls hW hS hl
    subst hq; try dsimp only at h
    refine lv_iconst (v := (0 : Int32)) hx0 hb dX12_hasSlipRead_34 (by decide) ?_
    cases h
    exact w_zret C hW hS (Or.inl rfl) dX12_hasSlipRead_35
def fX12_tellsMissing (x1 : Int32) (σ : Mem) : Option Mem :=
  (fX12_isFine σ).bind fun v1 => if v1 = 0 then ((fX12_isFine σ).bind fun v24 => if v24 = 0 then (some σ) else (if ((279 : Int32) + x1) < 0 ∨ lm 4 ≤ ((279 : Int32) + x1).toNatClampNeg then none else some (up σ 4 ((279 : Int32) + x1).toNatClampNeg (1 : Int32)))) else ((fX12_hasSlipRead x1 σ).bind fun v9 => if v9 = 0 then ((fX12_isFine σ).bind fun v24 => if v24 = 0 then (some σ) else (if ((279 : Int32) + x1) < 0 ∨ lm 4 ≤ ((279 : Int32) + x1).toNatClampNeg then none else some (up σ 4 ((279 : Int32) + x1).toNatClampNeg (1 : Int32)))) else ((fX12_wrongAt (σ 0 14) σ).bind fun v20 => (fX12_isFine v20).bind fun v24 => if v24 = 0 then (some v20) else (if ((279 : Int32) + x1) < 0 ∨ lm 4 ≤ ((279 : Int32) + x1).toNatClampNeg then none else some (up v20 4 ((279 : Int32) + x1).toNatClampNeg (1 : Int32)))))
set_option maxRecDepth 100000 in
set_option maxHeartbeats 4000000 in
theorem mX12_tellsMissing {l : Launch} {E : Ev} {b : Nat} (x1 : Int32) (σ : Mem) (r : Mem) (h : fX12_tellsMissing x1 σ = some r) : Met l yX12_tellsMissing (tw yX12_tellsMissing cX12_tellsMissing 2 none) { frames := 1, cells := 0, slots := 0, locals := 22 } (va_Pc [.ref (b + 0), .int x1] (Pr l E (LM E b) σ)) (Qz E (LM E b) none r) 0 0 (La (LM E b)) := by
  refine ct_of (by decide) (Nat.le_of_ble_eq_true rfl) ?_
  intro p e s m below meth c C hW hS ls hl
  have hx0 := C.1
  have hb := C.2.1
  have hl : lv_has ls 2 [(0, .ref (b + 0)), (1, .int x1)] := hl
  unfold fX12_tellsMissing at h
  refine lv_aload_n hx0 hb dX12_tellsMissing_0 rfl (lv_at hl 0 rfl) ?_
  obtain ⟨v1, h1, h⟩ := bnd h
  try dsimp only at h
  refine w_callV (L := (LM E b)) (k := 0) (As := []) (rest := []) C hW hS (show 0 < 18 by decide) cm0 kcX12 (mX12_isFine   σ v1 h1) cwX12_isFine cvX12_isFine rfl mlX12_118 ⟨by decide, by decide⟩ rfl hl.1 (Nat.le_of_ble_eq_true rfl) ⟨by decide, by decide⟩ dX12_tellsMissing_1 rfl (fun H locs hW hS => ?_)
  refine lv_if_eq (tgt := 23) hx0 hb dX12_tellsMissing_4 (by decide) (fun c4 => ?_) (fun c4 => ?_)
  · rw [if_pos c4] at h
    refine lv_aload_n hx0 hb dX12_tellsMissing_23 rfl (lv_at hl 0 rfl) ?_
    obtain ⟨v24, h24, h⟩ := bnd h
    try dsimp only at h
    refine w_callV (L := (LM E b)) (k := 0) (As := []) (rest := []) C hW hS (show 0 < 18 by decide) cm0 kcX12 (mX12_isFine   σ v24 h24) cwX12_isFine cvX12_isFine rfl mlX12_118 ⟨by decide, by decide⟩ rfl hl.1 (Nat.le_of_ble_eq_true rfl) ⟨by decide, by decide⟩ dX12_tellsMissing_24 rfl (fun H locs hW hS => ?_)
    refine lv_if_eq (tgt := 41) hx0 hb dX12_tellsMissing_27 (by decide) (fun c27 => ?_) (fun c27 => ?_)
    · rw [if_pos c27] at h
      cases h
      exact w_vret C hW hS dX12_tellsMissing_41
    · rw [if_neg c27] at h
      refine lv_aload_n hx0 hb dX12_tellsMissing_30 rfl (lv_at hl 0 rfl) ?_
      refine gtX12_6 C hW flX12_23 dX12_tellsMissing_31 ?_
      refine lv_sipush (v := (279 : Int32)) hx0 hb dX12_tellsMissing_34 (by decide) ?_
      refine lv_iload_n hx0 hb dX12_tellsMissing_37 rfl (lv_at hl 1 rfl) ?_
      refine lv_iadd hx0 hb dX12_tellsMissing_38 ?_
      refine lv_iconst (v := (1 : Int32)) hx0 hb dX12_tellsMissing_39 (by decide) ?_
      by_cases z40 : ((279 : Int32) + x1) < 0 ∨ lm 4 ≤ ((279 : Int32) + x1).toNatClampNeg
      · rw [if_pos z40] at h; cases h
      rw [if_neg z40] at h
      refine saIm (k := 4) C hW hS (by decide) z40 dX12_tellsMissing_40 (fun H locs hW hS => ?_)
      cases h
      exact w_vret C hW hS dX12_tellsMissing_41
  · rw [if_neg c4] at h
    refine lv_aload_n hx0 hb dX12_tellsMissing_7 rfl (lv_at hl 0 rfl) ?_
    refine lv_iload_n hx0 hb dX12_tellsMissing_8 rfl (lv_at hl 1 rfl) ?_
    obtain ⟨v9, h9, h⟩ := bnd h
    try dsimp only at h
    refine w_callV (L := (LM E b)) (k := 0) (As := [.int x1]) (rest := []) C hW hS (show 0 < 18 by decide) cm0 kcX12 (mX12_hasSlipRead x1  σ v9 h9) cwX12_hasSlipRead cvX12_hasSlipRead rfl mlX12_155 ⟨by decide, by decide⟩ rfl hl.1 (Nat.le_of_ble_eq_true rfl) ⟨by decide, by decide⟩ dX12_tellsMissing_9 rfl (fun H locs hW hS => ?_)
    refine lv_if_eq (tgt := 23) hx0 hb dX12_tellsMissing_12 (by decide) (fun c12 => ?_) (fun c12 => ?_)
    · rw [if_pos c12] at h
      refine lv_aload_n hx0 hb dX12_tellsMissing_23 rfl (lv_at hl 0 rfl) ?_
      obtain ⟨v24, h24, h⟩ := bnd h
      try dsimp only at h
      refine w_callV (L := (LM E b)) (k := 0) (As := []) (rest := []) C hW hS (show 0 < 18 by decide) cm0 kcX12 (mX12_isFine   σ v24 h24) cwX12_isFine cvX12_isFine rfl mlX12_118 ⟨by decide, by decide⟩ rfl hl.1 (Nat.le_of_ble_eq_true rfl) ⟨by decide, by decide⟩ dX12_tellsMissing_24 rfl (fun H locs hW hS => ?_)
      refine lv_if_eq (tgt := 41) hx0 hb dX12_tellsMissing_27 (by decide) (fun c27 => ?_) (fun c27 => ?_)
      · rw [if_pos c27] at h
        cases h
        exact w_vret C hW hS dX12_tellsMissing_41
      · rw [if_neg c27] at h
        refine lv_aload_n hx0 hb dX12_tellsMissing_30 rfl (lv_at hl 0 rfl) ?_
        refine gtX12_6 C hW flX12_23 dX12_tellsMissing_31 ?_
        refine lv_sipush (v := (279 : Int32)) hx0 hb dX12_tellsMissing_34 (by decide) ?_
        refine lv_iload_n hx0 hb dX12_tellsMissing_37 rfl (lv_at hl 1 rfl) ?_
        refine lv_iadd hx0 hb dX12_tellsMissing_38 ?_
        refine lv_iconst (v := (1 : Int32)) hx0 hb dX12_tellsMissing_39 (by decide) ?_
        by_cases z40 : ((279 : Int32) + x1) < 0 ∨ lm 4 ≤ ((279 : Int32) + x1).toNatClampNeg
        · rw [if_pos z40] at h; cases h
        rw [if_neg z40] at h
        refine saIm (k := 4) C hW hS (by decide) z40 dX12_tellsMissing_40 (fun H locs hW hS => ?_)
        cases h
        exact w_vret C hW hS dX12_tellsMissing_41
    · rw [if_neg c12] at h
      refine lv_aload_n hx0 hb dX12_tellsMissing_15 rfl (lv_at hl 0 rfl) ?_
      refine lv_aload_n hx0 hb dX12_tellsMissing_16 rfl (lv_at hl 0 rfl) ?_
      refine gtX12_14 C hW flX12_112 dX12_tellsMissing_17 ?_
      obtain ⟨v20, h20, h⟩ := bnd h
      try dsimp only at h
      refine w_callV (L := (LM E b)) (k := 0) (As := [.int (σ 0 14)]) (rest := []) C hW hS (show 0 < 18 by decide) cm0 kcX12 (mX12_wrongAt (σ 0 14)  σ v20 h20) cwX12_wrongAt cvX12_wrongAt rfl mlX12_140 ⟨by decide, by decide⟩ rfl hl.1 (Nat.le_of_ble_eq_true rfl) ⟨by decide, by decide⟩ dX12_tellsMissing_20 rfl (fun H locs hW hS => ?_)
      refine lv_aload_n hx0 hb dX12_tellsMissing_23 rfl (lv_at hl 0 rfl) ?_
      obtain ⟨v24, h24, h⟩ := bnd h
      try dsimp only at h
      refine w_callV (L := (LM E b)) (k := 0) (As := []) (rest := []) C hW hS (show 0 < 18 by decide) cm0 kcX12 (mX12_isFine   v20 v24 h24) cwX12_isFine cvX12_isFine rfl mlX12_118 ⟨by decide, by decide⟩ rfl hl.1 (Nat.le_of_ble_eq_true rfl) ⟨by decide, by decide⟩ dX12_tellsMissing_24 rfl (fun H locs hW hS => ?_)
      refine lv_if_eq (tgt := 41) hx0 hb dX12_tellsMissing_27 (by decide) (fun c27 => ?_) (fun c27 => ?_)
      · rw [if_pos c27] at h
        cases h
        exact w_vret C hW hS dX12_tellsMissing_41
      · rw [if_neg c27] at h
        refine lv_aload_n hx0 hb dX12_tellsMissing_30 rfl (lv_at hl 0 rfl) ?_
        refine gtX12_6 C hW flX12_23 dX12_tellsMissing_31 ?_
        refine lv_sipush (v := (279 : Int32)) hx0 hb dX12_tellsMissing_34 (by decide) ?_
        refine lv_iload_n hx0 hb dX12_tellsMissing_37 rfl (lv_at hl 1 rfl) ?_
        refine lv_iadd hx0 hb dX12_tellsMissing_38 ?_
        refine lv_iconst (v := (1 : Int32)) hx0 hb dX12_tellsMissing_39 (by decide) ?_
        by_cases z40 : ((279 : Int32) + x1) < 0 ∨ lm 4 ≤ ((279 : Int32) + x1).toNatClampNeg
        · rw [if_pos z40] at h; cases h
        rw [if_neg z40] at h
        refine saIm (k := 4) C hW hS (by decide) z40 dX12_tellsMissing_40 (fun H locs hW hS => ?_)
        cases h
        exact w_vret C hW hS dX12_tellsMissing_41
def fX12_readsMissing_l39 (x2 : Int32) : Nat → Int32 → Mem → Option (Int32 × Mem)
  | 0, _, _ => none
  | n + 1, x3, σ => if x2 < x3 then (some (x3, σ)) else ((fX12_isFine σ).bind fun v45 => if v45 = 0 then (some (x3, σ)) else ((fX12_tellsMissing x3 σ).bind fun v53 => fX12_readsMissing_l39 x2 n (x3 + (1 : Int32)) v53))
set_option maxRecDepth 100000 in
set_option maxHeartbeats 4000000 in
theorem bX12_readsMissing_l39 {p : Program} {l : Launch} {e : Env} {s : State} {m : MethodId} {args : Array Value} {below : List Frame} {meth : Method} {c : Code} {E : Ev} {b : Nat} (C : Cx p l s m args meth c E cX12_readsMissing 4 RX12 none) (x2 : Int32) {Qf : State → Prop} {q : Int32 × Mem} (hx : ∀ H locs ls, Wd E (LM E b) q.2 H → va_S (La (LM E b)) s.heap H locs → lv_has ls 4 [(0, .ref (b + 0)), (2, .int x2), (3, .int q.1)] → W p l e { frames := 4, cells := 0, slots := 0, locals := 85 } s m args below meth c H locs 0 0 Qf (F0 m 62 ls [])) : ∀ (n : Nat) (x3 : Int32) (σ : Mem), fX12_readsMissing_l39 x2 n x3 σ = some q → ∀ (H : Heap) (locs : List Loc) (ls : Array Slot), Wd E (LM E b) σ H → va_S (La (LM E b)) s.heap H locs → lv_has ls 4 [(0, .ref (b + 0)), (2, .int x2), (3, .int x3)] → W p l e { frames := 4, cells := 0, slots := 0, locals := 85 } s m args below meth c H locs 0 0 Qf (F0 m 39 ls []) := by
  have hx0 := C.1
  have hb := C.2.1
  intro n
  induction n with
  | zero => intro x3 σ h; simp [fX12_readsMissing_l39] at h
  | succ n ih =>
    intro x3 σ h H locs ls hW hS hl
    unfold fX12_readsMissing_l39 at h
    refine lv_iload_n hx0 hb dX12_readsMissing_39 rfl (lv_at hl 2 rfl) ?_
    refine lv_iload_n hx0 hb dX12_readsMissing_40 rfl (lv_at hl 1 rfl) ?_
    refine lv_icmp_gt (tgt := 62) hx0 hb dX12_readsMissing_41 (by decide) (fun c41 => ?_) (fun c41 => ?_)
    · rw [if_pos c41] at h
      cases h
      exact hx _ _ _ hW hS (lv_sub hl [0, 1, 2] rfl)
    · rw [if_neg c41] at h
      refine lv_aload_n hx0 hb dX12_readsMissing_44 rfl (lv_at hl 0 rfl) ?_
      obtain ⟨v45, h45, h⟩ := bnd h
      try dsimp only at h
      refine w_callV (L := (LM E b)) (k := 0) (As := []) (rest := []) C hW hS (show 0 < 18 by decide) cm0 kcX12 (mX12_isFine   σ v45 h45) cwX12_isFine cvX12_isFine rfl mlX12_118 ⟨by decide, by decide⟩ rfl hl.1 (Nat.le_of_ble_eq_true rfl) ⟨by decide, by decide⟩ dX12_readsMissing_45 rfl (fun H locs hW hS => ?_)
      refine lv_if_eq (tgt := 62) hx0 hb dX12_readsMissing_48 (by decide) (fun c48 => ?_) (fun c48 => ?_)
      · rw [if_pos c48] at h
        cases h
        exact hx _ _ _ hW hS (lv_sub hl [0, 1, 2] rfl)
      · rw [if_neg c48] at h
        refine lv_aload_n hx0 hb dX12_readsMissing_51 rfl (lv_at hl 0 rfl) ?_
        refine lv_iload_n hx0 hb dX12_readsMissing_52 rfl (lv_at hl 2 rfl) ?_
        obtain ⟨v53, h53, h⟩ := bnd h
        try dsimp only at h
        refine w_callV (L := (LM E b)) (k := 0) (As := [.int x3]) (rest := []) C hW hS (show 0 < 18 by decide) cm0 kcX12 (mX12_tellsMissing x3  σ v53 h53) cwX12_tellsMissing cvX12_tellsMissing rfl mlX12_161 ⟨by decide, by decide⟩ rfl hl.1 (Nat.le_of_ble_eq_true rfl) ⟨by decide, by decide⟩ dX12_readsMissing_53 rfl (fun H locs hW hS => ?_)
        refine lv_iinc (v := x3 + (1 : Int32)) (lv' := [(3, .int (x3 + (1 : Int32))), (0, .ref (b + 0)), (2, .int x2)]) hx0 hb dX12_readsMissing_56 hl (k := 2) rfl rfl (by decide) rfl (fun ls hl => ?_)
        refine lv_goto (tgt := 39) hx0 hb dX12_readsMissing_59 (by decide) ?_
        exact ih (x3 + (1 : Int32)) v53 h _ _ _ hW hS (lv_sub hl [1, 2, 0] rfl)
def fX12_readsMissing (σ : Mem) : Option Mem :=
  (fX12_leafRead (0 : Int32) σ).bind fun v2 => (fX12_tellsMissing v2.1 v2.2).bind fun v8 => (fX12_isFine v8).bind fun v12 => if v12 = 0 then (some v8) else ((fX12_look v8).bind fun v19 => (fX12_isDigit v19.1 v19.2).bind fun v22 => if v22 = 0 then (some v19.2) else ((fX12_leafRead v2.1 v19.2).bind fun v31 => (fX12_readsMissing_l39 v31.1 FU (v2.1 + (1 : Int32)) v31.2).bind fun q39 => some q39.2))
set_option maxRecDepth 100000 in
set_option maxHeartbeats 4000000 in
theorem mX12_readsMissing {l : Launch} {E : Ev} {b : Nat} (σ : Mem) (r : Mem) (h : fX12_readsMissing σ = some r) : Met l yX12_readsMissing (tw yX12_readsMissing cX12_readsMissing 4 none) { frames := 4, cells := 0, slots := 0, locals := 85 } (va_Pc [.ref (b + 0)] (Pr l E (LM E b) σ)) (Qz E (LM E b) none r) 0 0 (La (LM E b)) := by
  refine ct_of (by decide) (Nat.le_of_ble_eq_true rfl) ?_
  intro p e s m below meth c C hW hS ls hl
  have hx0 := C.1
  have hb := C.2.1
  have hl : lv_has ls 4 [(0, .ref (b + 0))] := hl
  unfold fX12_readsMissing at h
  refine lv_aload_n hx0 hb dX12_readsMissing_0 rfl (lv_at hl 0 rfl) ?_
  refine lv_iconst (v := (0 : Int32)) hx0 hb dX12_readsMissing_1 (by decide) ?_
  obtain ⟨v2, h2, h⟩ := bnd h
  try dsimp only at h
  refine w_callV (L := (LM E b)) (k := 0) (As := [.int (0 : Int32)]) (rest := []) C hW hS (show 0 < 18 by decide) cm0 kcX12 (mX12_leafRead (0 : Int32)  σ v2 h2) cwX12_leafRead cvX12_leafRead rfl mlX12_158 ⟨by decide, by decide⟩ rfl hl.1 (Nat.le_of_ble_eq_true rfl) ⟨by decide, by decide⟩ dX12_readsMissing_2 rfl (fun H locs hW hS => ?_)
  refine lv_istore_n (lv' := [(1, .int v2.1), (0, .ref (b + 0))]) hx0 hb dX12_readsMissing_5 rfl hl (by decide) rfl (fun ls hl => ?_)
  refine lv_aload_n hx0 hb dX12_readsMissing_6 rfl (lv_at hl 1 rfl) ?_
  refine lv_iload_n hx0 hb dX12_readsMissing_7 rfl (lv_at hl 0 rfl) ?_
  obtain ⟨v8, h8, h⟩ := bnd h
  try dsimp only at h
  refine w_callV (L := (LM E b)) (k := 0) (As := [.int v2.1]) (rest := []) C hW hS (show 0 < 18 by decide) cm0 kcX12 (mX12_tellsMissing v2.1  v2.2 v8 h8) cwX12_tellsMissing cvX12_tellsMissing rfl mlX12_161 ⟨by decide, by decide⟩ rfl hl.1 (Nat.le_of_ble_eq_true rfl) ⟨by decide, by decide⟩ dX12_readsMissing_8 rfl (fun H locs hW hS => ?_)
  refine lv_aload_n hx0 hb dX12_readsMissing_11 rfl (lv_at hl 1 rfl) ?_
  obtain ⟨v12, h12, h⟩ := bnd h
  try dsimp only at h
  refine w_callV (L := (LM E b)) (k := 0) (As := []) (rest := []) C hW hS (show 0 < 18 by decide) cm0 kcX12 (mX12_isFine   v8 v12 h12) cwX12_isFine cvX12_isFine rfl mlX12_118 ⟨by decide, by decide⟩ rfl hl.1 (Nat.le_of_ble_eq_true rfl) ⟨by decide, by decide⟩ dX12_readsMissing_12 rfl (fun H locs hW hS => ?_)
  refine lv_if_eq (tgt := 28) hx0 hb dX12_readsMissing_15 (by decide) (fun c15 => ?_) (fun c15 => ?_)
  · rw [if_pos c15] at h
    cases h
    exact w_vret C hW hS dX12_readsMissing_28
  · rw [if_neg c15] at h
    refine lv_aload_n hx0 hb dX12_readsMissing_18 rfl (lv_at hl 1 rfl) ?_
    obtain ⟨v19, h19, h⟩ := bnd h
    try dsimp only at h
    refine w_callV (L := (LM E b)) (k := 0) (As := []) (rest := []) C hW hS (show 0 < 18 by decide) cm0 kcX12 (mX12_look   v8 v19 h19) cwX12_look cvX12_look rfl mlX12_122 ⟨by decide, by decide⟩ rfl hl.1 (Nat.le_of_ble_eq_true rfl) ⟨by decide, by decide⟩ dX12_readsMissing_19 rfl (fun H locs hW hS => ?_)
    obtain ⟨v22, h22, h⟩ := bnd h
    try dsimp only at h
    refine w_callS (L := (LM E b)) (As := [.int v19.1]) (rest := []) C hW hS (mX12_isDigit v19.1  v19.2 v22 h22) cwX12_isDigit csX12_isDigit mlX12_137 ⟨by decide, by decide⟩ rfl hl.1 (Nat.le_of_ble_eq_true rfl) ⟨by decide, by decide⟩ dX12_readsMissing_22 rfl (fun H locs hW hS => ?_)
    refine lv_if_ne (tgt := 29) hx0 hb dX12_readsMissing_25 (by decide) (fun c25 => ?_) (fun c25 => ?_)
    · rw [if_neg c25] at h
      refine lv_aload_n hx0 hb dX12_readsMissing_29 rfl (lv_at hl 1 rfl) ?_
      refine lv_iload_n hx0 hb dX12_readsMissing_30 rfl (lv_at hl 0 rfl) ?_
      obtain ⟨v31, h31, h⟩ := bnd h
      try dsimp only at h
      refine w_callV (L := (LM E b)) (k := 0) (As := [.int v2.1]) (rest := []) C hW hS (show 0 < 18 by decide) cm0 kcX12 (mX12_leafRead v2.1  v19.2 v31 h31) cwX12_leafRead cvX12_leafRead rfl mlX12_158 ⟨by decide, by decide⟩ rfl hl.1 (Nat.le_of_ble_eq_true rfl) ⟨by decide, by decide⟩ dX12_readsMissing_31 rfl (fun H locs hW hS => ?_)
      refine lv_istore_n (lv' := [(2, .int v31.1), (1, .int v2.1), (0, .ref (b + 0))]) hx0 hb dX12_readsMissing_34 rfl hl (by decide) rfl (fun ls hl => ?_)
      refine lv_iload_n hx0 hb dX12_readsMissing_35 rfl (lv_at hl 1 rfl) ?_
      refine lv_iconst (v := (1 : Int32)) hx0 hb dX12_readsMissing_36 (by decide) ?_
      refine lv_iadd hx0 hb dX12_readsMissing_37 ?_
      refine lv_istore_n (lv' := [(3, .int (v2.1 + (1 : Int32))), (2, .int v31.1), (1, .int v2.1), (0, .ref (b + 0))]) hx0 hb dX12_readsMissing_38 rfl hl (by decide) rfl (fun ls hl => ?_)
      obtain ⟨q39, h39, h⟩ := bnd h
      try dsimp only at h
      refine bX12_readsMissing_l39 C v31.1  (q := q39) ?_ FU (v2.1 + (1 : Int32)) v31.2 h39 _ _ _ hW hS (lv_sub hl [3, 1, 0] rfl)
      intro H locs ls hW hS hl
      cases h
      exact w_vret C hW hS dX12_readsMissing_62
    · rw [if_pos c25] at h
      cases h
      exact w_vret C hW hS dX12_readsMissing_28
def fX12_tokenNow (σ : Mem) : Option (Int32 × Mem) :=
  (fX12_look σ).bind fun v1 => some (v1.2 0 14, v1.2)
set_option maxRecDepth 100000 in
set_option maxHeartbeats 4000000 in
theorem mX12_tokenNow {l : Launch} {E : Ev} {b : Nat} (σ : Mem) (r : (Int32 × Mem)) (h : fX12_tokenNow σ = some r) : Met l yX12_tokenNow (tw yX12_tokenNow cX12_tokenNow 2 (some .int)) { frames := 2, cells := 0, slots := 0, locals := 40 } (va_Pc [.ref (b + 0)] (Pr l E (LM E b) σ)) (Qz E (LM E b) (some (.int r.1)) r.2) 0 0 (La (LM E b)) := by
  refine ct_of (by decide) (Nat.le_of_ble_eq_true rfl) ?_
  intro p e s m below meth c C hW hS ls hl
  have hx0 := C.1
  have hb := C.2.1
  have hl : lv_has ls 2 [(0, .ref (b + 0))] := hl
  unfold fX12_tokenNow at h
  refine lv_aload_n hx0 hb dX12_tokenNow_0 rfl (lv_at hl 0 rfl) ?_
  obtain ⟨v1, h1, h⟩ := bnd h
  try dsimp only at h
  refine w_callV (L := (LM E b)) (k := 0) (As := []) (rest := []) C hW hS (show 0 < 18 by decide) cm0 kcX12 (mX12_look   σ v1 h1) cwX12_look cvX12_look rfl mlX12_122 ⟨by decide, by decide⟩ rfl hl.1 (Nat.le_of_ble_eq_true rfl) ⟨by decide, by decide⟩ dX12_tokenNow_1 rfl (fun H locs hW hS => ?_)
  refine lv_istore_n (lv' := [(1, .int v1.1), (0, .ref (b + 0))]) hx0 hb dX12_tokenNow_4 rfl hl (by decide) rfl (fun ls hl => ?_)
  refine lv_aload_n hx0 hb dX12_tokenNow_5 rfl (lv_at hl 1 rfl) ?_
  refine gtX12_14 C hW flX12_112 dX12_tokenNow_6 ?_
  cases h
  exact w_iret C hW hS dX12_tokenNow_9
def fX12_readsSlip_j93 (x2 : Int32) (x3 : Int32) (σ : Mem) : Option (Mem) :=
  if (0 : Int32) < 0 ∨ lm 4 ≤ (0 : Int32).toNatClampNeg then none else if ((5 : Int32) + ((3 : Int32) * (σ 4 (0 : Int32).toNatClampNeg))) < 0 ∨ lm 4 ≤ ((5 : Int32) + ((3 : Int32) * (σ 4 (0 : Int32).toNatClampNeg))).toNatClampNeg then none else if (((5 : Int32) + ((3 : Int32) * (σ 4 (0 : Int32).toNatClampNeg))) + (1 : Int32)) < 0 ∨ lm 4 ≤ (((5 : Int32) + ((3 : Int32) * (σ 4 (0 : Int32).toNatClampNeg))) + (1 : Int32)).toNatClampNeg then none else (fX12_number (1 : Int32) (2 : Int32) (up (up σ 4 ((5 : Int32) + ((3 : Int32) * (σ 4 (0 : Int32).toNatClampNeg))).toNatClampNeg x2) 4 (((5 : Int32) + ((3 : Int32) * (σ 4 (0 : Int32).toNatClampNeg))) + (1 : Int32)).toNatClampNeg x3)).bind fun v134 => if (((5 : Int32) + ((3 : Int32) * (σ 4 (0 : Int32).toNatClampNeg))) + (2 : Int32)) < 0 ∨ lm 4 ≤ (((5 : Int32) + ((3 : Int32) * (σ 4 (0 : Int32).toNatClampNeg))) + (2 : Int32)).toNatClampNeg then none else if (0 : Int32) < 0 ∨ lm 4 ≤ (0 : Int32).toNatClampNeg then none else if (0 : Int32) < 0 ∨ lm 4 ≤ (0 : Int32).toNatClampNeg then none else some (up (up v134.2 4 (((5 : Int32) + ((3 : Int32) * (σ 4 (0 : Int32).toNatClampNeg))) + (2 : Int32)).toNatClampNeg v134.1) 4 (0 : Int32).toNatClampNeg (((up v134.2 4 (((5 : Int32) + ((3 : Int32) * (σ 4 (0 : Int32).toNatClampNeg))) + (2 : Int32)).toNatClampNeg v134.1) 4 (0 : Int32).toNatClampNeg) + (1 : Int32)))
set_option maxRecDepth 100000 in
set_option maxHeartbeats 4000000 in
theorem bX12_readsSlip_j93 {p : Program} {l : Launch} {e : Env} {s : State} {m : MethodId} {args : Array Value} {below : List Frame} {meth : Method} {c : Code} {E : Ev} {b : Nat} (C : Cx p l s m args meth c E cX12_readsSlip 5 RX12 none) (x2 : Int32) (x3 : Int32) {r : Mem} (σ : Mem) (h : fX12_readsSlip_j93 x2 x3 σ = some r) (H : Heap) (locs : List Loc) (ls : Array Slot) (hW : Wd E (LM E b) σ H) (hS : va_S (La (LM E b)) s.heap H locs) (hl : lv_has ls 5 [(0, .ref (b + 0)), (2, .int x2), (3, .int x3)]) : W p l e { frames := 5, cells := 0, slots := 0, locals := 184 } s m args below meth c H locs 0 0 (MQ below (Qz E (LM E b) none r) args s 0 0 (La (LM E b))) (F0 m 93 ls []) := by
  have hx0 := C.1
  have hb := C.2.1
  unfold fX12_readsSlip_j93 at h
  refine lv_iconst (v := (5 : Int32)) hx0 hb dX12_readsSlip_93 (by decide) ?_
  refine lv_iconst (v := (3 : Int32)) hx0 hb dX12_readsSlip_94 (by decide) ?_
  refine lv_aload_n hx0 hb dX12_readsSlip_95 rfl (lv_at hl 0 rfl) ?_
  refine gtX12_6 C hW flX12_23 dX12_readsSlip_96 ?_
  refine lv_iconst (v := (0 : Int32)) hx0 hb dX12_readsSlip_99 (by decide) ?_
  by_cases z100 : (0 : Int32) < 0 ∨ lm 4 ≤ (0 : Int32).toNatClampNeg
  · rw [if_pos z100] at h; cases h
  rw [if_neg z100] at h
  refine ldIm (k := 4) C hW (by decide) z100 dX12_readsSlip_100 ?_
  refine lv_imul hx0 hb dX12_readsSlip_101 ?_
  refine lv_iadd hx0 hb dX12_readsSlip_102 ?_
  refine lv_istore (lv' := [(4, .int ((5 : Int32) + ((3 : Int32) * (σ 4 (0 : Int32).toNatClampNeg)))), (0, .ref (b + 0)), (2, .int x2), (3, .int x3)]) hx0 hb dX12_readsSlip_103 hl (by decide) rfl (fun ls hl => ?_)
  refine lv_aload_n hx0 hb dX12_readsSlip_105 rfl (lv_at hl 1 rfl) ?_
  refine gtX12_6 C hW flX12_23 dX12_readsSlip_106 ?_
  refine lv_iload hx0 hb dX12_readsSlip_109 (lv_at hl 0 rfl) ?_
  refine lv_iload_n hx0 hb dX12_readsSlip_111 rfl (lv_at hl 2 rfl) ?_
  by_cases z112 : ((5 : Int32) + ((3 : Int32) * (σ 4 (0 : Int32).toNatClampNeg))) < 0 ∨ lm 4 ≤ ((5 : Int32) + ((3 : Int32) * (σ 4 (0 : Int32).toNatClampNeg))).toNatClampNeg
  · rw [if_pos z112] at h; cases h
  rw [if_neg z112] at h
  refine saIm (k := 4) C hW hS (by decide) z112 dX12_readsSlip_112 (fun H locs hW hS => ?_)
  refine lv_aload_n hx0 hb dX12_readsSlip_113 rfl (lv_at hl 1 rfl) ?_
  refine gtX12_6 C hW flX12_23 dX12_readsSlip_114 ?_
  refine lv_iload hx0 hb dX12_readsSlip_117 (lv_at hl 0 rfl) ?_
  refine lv_iconst (v := (1 : Int32)) hx0 hb dX12_readsSlip_119 (by decide) ?_
  refine lv_iadd hx0 hb dX12_readsSlip_120 ?_
  refine lv_iload_n hx0 hb dX12_readsSlip_121 rfl (lv_at hl 3 rfl) ?_
  by_cases z122 : (((5 : Int32) + ((3 : Int32) * (σ 4 (0 : Int32).toNatClampNeg))) + (1 : Int32)) < 0 ∨ lm 4 ≤ (((5 : Int32) + ((3 : Int32) * (σ 4 (0 : Int32).toNatClampNeg))) + (1 : Int32)).toNatClampNeg
  · rw [if_pos z122] at h; cases h
  rw [if_neg z122] at h
  refine saIm (k := 4) C hW hS (by decide) z122 dX12_readsSlip_122 (fun H locs hW hS => ?_)
  refine lv_aload_n hx0 hb dX12_readsSlip_123 rfl (lv_at hl 1 rfl) ?_
  refine gtX12_6 C hW flX12_23 dX12_readsSlip_124 ?_
  refine lv_iload hx0 hb dX12_readsSlip_127 (lv_at hl 0 rfl) ?_
  refine lv_iconst (v := (2 : Int32)) hx0 hb dX12_readsSlip_129 (by decide) ?_
  refine lv_iadd hx0 hb dX12_readsSlip_130 ?_
  refine lv_aload_n hx0 hb dX12_readsSlip_131 rfl (lv_at hl 1 rfl) ?_
  refine lv_iconst (v := (1 : Int32)) hx0 hb dX12_readsSlip_132 (by decide) ?_
  refine lv_iconst (v := (2 : Int32)) hx0 hb dX12_readsSlip_133 (by decide) ?_
  obtain ⟨v134, h134, h⟩ := bnd h
  try dsimp only at h
  refine w_callV (L := (LM E b)) (k := 0) (As := [.int (1 : Int32), .int (2 : Int32)]) (rest := [.int (((5 : Int32) + ((3 : Int32) * (σ 4 (0 : Int32).toNatClampNeg))) + (2 : Int32)), .ref (b + 4)]) C hW hS (show 0 < 18 by decide) cm0 kcX12 (mX12_number (1 : Int32) (2 : Int32)  (up (up σ 4 ((5 : Int32) + ((3 : Int32) * (σ 4 (0 : Int32).toNatClampNeg))).toNatClampNeg x2) 4 (((5 : Int32) + ((3 : Int32) * (σ 4 (0 : Int32).toNatClampNeg))) + (1 : Int32)).toNatClampNeg x3) v134 h134) cwX12_number cvX12_number rfl mlX12_146 ⟨by decide, by decide⟩ rfl hl.1 (Nat.le_of_ble_eq_true rfl) ⟨by decide, by decide⟩ dX12_readsSlip_134 rfl (fun H locs hW hS => ?_)
  by_cases z137 : (((5 : Int32) + ((3 : Int32) * (σ 4 (0 : Int32).toNatClampNeg))) + (2 : Int32)) < 0 ∨ lm 4 ≤ (((5 : Int32) + ((3 : Int32) * (σ 4 (0 : Int32).toNatClampNeg))) + (2 : Int32)).toNatClampNeg
  · rw [if_pos z137] at h; cases h
  rw [if_neg z137] at h
  refine saIm (k := 4) C hW hS (by decide) z137 dX12_readsSlip_137 (fun H locs hW hS => ?_)
  refine lv_aload_n hx0 hb dX12_readsSlip_138 rfl (lv_at hl 1 rfl) ?_
  refine gtX12_6 C hW flX12_23 dX12_readsSlip_139 ?_
  refine lv_iconst (v := (0 : Int32)) hx0 hb dX12_readsSlip_142 (by decide) ?_
  refine lv_dup2_11 hx0 hb dX12_readsSlip_143 rfl rfl ?_
  by_cases z144 : (0 : Int32) < 0 ∨ lm 4 ≤ (0 : Int32).toNatClampNeg
  · rw [if_pos z144] at h; cases h
  rw [if_neg z144] at h
  refine ldIm (k := 4) C hW (by decide) z144 dX12_readsSlip_144 ?_
  refine lv_iconst (v := (1 : Int32)) hx0 hb dX12_readsSlip_145 (by decide) ?_
  refine lv_iadd hx0 hb dX12_readsSlip_146 ?_
  by_cases z147 : (0 : Int32) < 0 ∨ lm 4 ≤ (0 : Int32).toNatClampNeg
  · rw [if_pos z147] at h; cases h
  rw [if_neg z147] at h
  refine saIm (k := 4) C hW hS (by decide) z147 dX12_readsSlip_147 (fun H locs hW hS => ?_)
  cases h
  exact w_vret C hW hS dX12_readsSlip_148
def fX12_readsSlip_j79 (x2 : Int32) (s0 : Int32) (σ : Mem) : Option (Mem) :=
  if s0 = (-1 : Int32) then ((fX12_tokenNow σ).bind fun v87 => (fX12_wrongAt v87.1 v87.2).bind fun v90 => fX12_readsSlip_j93 x2 s0 v90) else (fX12_readsSlip_j93 x2 s0 σ)
set_option maxRecDepth 100000 in
set_option maxHeartbeats 4000000 in
theorem bX12_readsSlip_j79 {p : Program} {l : Launch} {e : Env} {s : State} {m : MethodId} {args : Array Value} {below : List Frame} {meth : Method} {c : Code} {E : Ev} {b : Nat} (C : Cx p l s m args meth c E cX12_readsSlip 5 RX12 none) (x2 : Int32) (s0 : Int32) {r : Mem} (σ : Mem) (h : fX12_readsSlip_j79 x2 s0 σ = some r) (H : Heap) (locs : List Loc) (ls : Array Slot) (hW : Wd E (LM E b) σ H) (hS : va_S (La (LM E b)) s.heap H locs) (hl : lv_has ls 5 [(0, .ref (b + 0)), (2, .int x2)]) : W p l e { frames := 5, cells := 0, slots := 0, locals := 184 } s m args below meth c H locs 0 0 (MQ below (Qz E (LM E b) none r) args s 0 0 (La (LM E b))) (F0 m 79 ls [.int s0]) := by
  have hx0 := C.1
  have hb := C.2.1
  unfold fX12_readsSlip_j79 at h
  refine lv_istore_n (lv' := [(3, .int s0), (0, .ref (b + 0)), (2, .int x2)]) hx0 hb dX12_readsSlip_79 rfl hl (by decide) rfl (fun ls hl => ?_)
  refine lv_iload_n hx0 hb dX12_readsSlip_80 rfl (lv_at hl 0 rfl) ?_
  refine lv_iconst (v := (-1 : Int32)) hx0 hb dX12_readsSlip_81 (by decide) ?_
  refine lv_icmp_ne (tgt := 93) hx0 hb dX12_readsSlip_82 (by decide) (fun c82 => ?_) (fun c82 => ?_)
  · rw [if_neg c82] at h
    exact bX12_readsSlip_j93 C x2 s0 σ h _ _ _ hW hS (lv_sub hl [1, 2, 0] rfl)
  · rw [if_pos c82] at h
    refine lv_aload_n hx0 hb dX12_readsSlip_85 rfl (lv_at hl 1 rfl) ?_
    refine lv_aload_n hx0 hb dX12_readsSlip_86 rfl (lv_at hl 1 rfl) ?_
    obtain ⟨v87, h87, h⟩ := bnd h
    try dsimp only at h
    refine w_callV (L := (LM E b)) (k := 0) (As := []) (rest := [.ref (b + 0)]) C hW hS (show 0 < 18 by decide) cm0 kcX12 (mX12_tokenNow   σ v87 h87) cwX12_tokenNow cvX12_tokenNow rfl mlX12_172 ⟨by decide, by decide⟩ rfl hl.1 (Nat.le_of_ble_eq_true rfl) ⟨by decide, by decide⟩ dX12_readsSlip_87 rfl (fun H locs hW hS => ?_)
    obtain ⟨v90, h90, h⟩ := bnd h
    try dsimp only at h
    refine w_callV (L := (LM E b)) (k := 0) (As := [.int v87.1]) (rest := []) C hW hS (show 0 < 18 by decide) cm0 kcX12 (mX12_wrongAt v87.1  v87.2 v90 h90) cwX12_wrongAt cvX12_wrongAt rfl mlX12_140 ⟨by decide, by decide⟩ rfl hl.1 (Nat.le_of_ble_eq_true rfl) ⟨by decide, by decide⟩ dX12_readsSlip_90 rfl (fun H locs hW hS => ?_)
    exact bX12_readsSlip_j93 C x2 s0 v90 h _ _ _ hW hS (lv_sub hl [1, 2, 0] rfl)
def fX12_readsSlip_j52 (x2 : Int32) (σ : Mem) : Option (Mem) :=
  (fX12_takes 13 σ).bind fun v55 => if v55.1 = 0 then ((fX12_takes 14 v55.2).bind fun v68 => if v68.1 = 0 then (fX12_readsSlip_j79 x2 (-1 : Int32) v68.2) else (fX12_readsSlip_j79 x2 (1 : Int32) v68.2)) else (fX12_readsSlip_j79 x2 (0 : Int32) v55.2)
set_option maxRecDepth 100000 in
set_option maxHeartbeats 4000000 in
theorem bX12_readsSlip_j52 {p : Program} {l : Launch} {e : Env} {s : State} {m : MethodId} {args : Array Value} {below : List Frame} {meth : Method} {c : Code} {E : Ev} {b : Nat} (C : Cx p l s m args meth c E cX12_readsSlip 5 RX12 none) (x2 : Int32) {r : Mem} (σ : Mem) (h : fX12_readsSlip_j52 x2 σ = some r) (H : Heap) (locs : List Loc) (ls : Array Slot) (hW : Wd E (LM E b) σ H) (hS : va_S (La (LM E b)) s.heap H locs) (hl : lv_has ls 5 [(0, .ref (b + 0)), (2, .int x2)]) : W p l e { frames := 5, cells := 0, slots := 0, locals := 184 } s m args below meth c H locs 0 0 (MQ below (Qz E (LM E b) none r) args s 0 0 (La (LM E b))) (F0 m 52 ls []) := by
  have hx0 := C.1
  have hb := C.2.1
  unfold fX12_readsSlip_j52 at h
  refine lv_aload_n hx0 hb dX12_readsSlip_52 rfl (lv_at hl 0 rfl) ?_
  refine w_ldcS C 13 rfl dX12_readsSlip_53 ?_
  obtain ⟨v55, h55, h⟩ := bnd h
  try dsimp only at h
  refine w_callV (L := (LM E b)) (k := 0) (As := [.ref (E.2.2.1 13)]) (rest := []) C hW hS (show 0 < 18 by decide) cm0 kcX12 (mX12_takes 13 (by decide : 13 < bytL.length) σ v55 h55) cwX12_takes cvX12_takes rfl mlX12_166 ⟨by decide, by decide⟩ rfl hl.1 (Nat.le_of_ble_eq_true rfl) ⟨by decide, by decide⟩ dX12_readsSlip_55 rfl (fun H locs hW hS => ?_)
  refine lv_if_eq (tgt := 65) hx0 hb dX12_readsSlip_58 (by decide) (fun c58 => ?_) (fun c58 => ?_)
  · rw [if_pos c58] at h
    refine lv_aload_n hx0 hb dX12_readsSlip_65 rfl (lv_at hl 0 rfl) ?_
    refine w_ldcS C 14 rfl dX12_readsSlip_66 ?_
    obtain ⟨v68, h68, h⟩ := bnd h
    try dsimp only at h
    refine w_callV (L := (LM E b)) (k := 0) (As := [.ref (E.2.2.1 14)]) (rest := []) C hW hS (show 0 < 18 by decide) cm0 kcX12 (mX12_takes 14 (by decide : 14 < bytL.length) v55.2 v68 h68) cwX12_takes cvX12_takes rfl mlX12_166 ⟨by decide, by decide⟩ rfl hl.1 (Nat.le_of_ble_eq_true rfl) ⟨by decide, by decide⟩ dX12_readsSlip_68 rfl (fun H locs hW hS => ?_)
    refine lv_if_eq (tgt := 78) hx0 hb dX12_readsSlip_71 (by decide) (fun c71 => ?_) (fun c71 => ?_)
    · rw [if_pos c71] at h
      refine lv_iconst (v := (-1 : Int32)) hx0 hb dX12_readsSlip_78 (by decide) ?_
      exact bX12_readsSlip_j79 C x2 (-1 : Int32) v68.2 h _ _ _ hW hS (lv_sub hl [0, 1] rfl)
    · rw [if_neg c71] at h
      refine lv_iconst (v := (1 : Int32)) hx0 hb dX12_readsSlip_74 (by decide) ?_
      refine lv_goto (tgt := 79) hx0 hb dX12_readsSlip_75 (by decide) ?_
      exact bX12_readsSlip_j79 C x2 (1 : Int32) v68.2 h _ _ _ hW hS (lv_sub hl [0, 1] rfl)
  · rw [if_neg c58] at h
    refine lv_iconst (v := (0 : Int32)) hx0 hb dX12_readsSlip_61 (by decide) ?_
    refine lv_goto (tgt := 79) hx0 hb dX12_readsSlip_62 (by decide) ?_
    exact bX12_readsSlip_j79 C x2 (0 : Int32) v55.2 h _ _ _ hW hS (lv_sub hl [0, 1] rfl)
def fX12_readsSlip (x1 : Int32) (σ : Mem) : Option Mem :=
  if (0 : Int32) < 0 ∨ lm 4 ≤ (0 : Int32).toNatClampNeg then none else if (σ 4 (0 : Int32).toNatClampNeg) = (12 : Int32) then ((fX12_wrongAt x1 σ).bind fun v13 => some v13) else ((fX12_leafRead (0 : Int32) σ).bind fun v19 => (fX12_isFine v19.2).bind fun v24 => if v24 = 0 then (fX12_readsSlip_j52 v19.1 v19.2) else (if ((279 : Int32) + v19.1) < 0 ∨ lm 4 ≤ ((279 : Int32) + v19.1).toNatClampNeg then none else if (v19.2 4 ((279 : Int32) + v19.1).toNatClampNeg) = (1 : Int32) then ((fX12_wrongAt (v19.2 0 14) v19.2).bind fun v49 => fX12_readsSlip_j52 v19.1 v49) else (fX12_readsSlip_j52 v19.1 v19.2)))
set_option maxRecDepth 100000 in
set_option maxHeartbeats 4000000 in
theorem mX12_readsSlip {l : Launch} {E : Ev} {b : Nat} (x1 : Int32) (σ : Mem) (r : Mem) (h : fX12_readsSlip x1 σ = some r) : Met l yX12_readsSlip (tw yX12_readsSlip cX12_readsSlip 5 none) { frames := 5, cells := 0, slots := 0, locals := 184 } (va_Pc [.ref (b + 0), .int x1] (Pr l E (LM E b) σ)) (Qz E (LM E b) none r) 0 0 (La (LM E b)) := by
  refine ct_of (by decide) (Nat.le_of_ble_eq_true rfl) ?_
  intro p e s m below meth c C hW hS ls hl
  have hx0 := C.1
  have hb := C.2.1
  have hl : lv_has ls 5 [(0, .ref (b + 0)), (1, .int x1)] := hl
  unfold fX12_readsSlip at h
  refine lv_aload_n hx0 hb dX12_readsSlip_0 rfl (lv_at hl 0 rfl) ?_
  refine gtX12_6 C hW flX12_23 dX12_readsSlip_1 ?_
  refine lv_iconst (v := (0 : Int32)) hx0 hb dX12_readsSlip_4 (by decide) ?_
  by_cases z5 : (0 : Int32) < 0 ∨ lm 4 ≤ (0 : Int32).toNatClampNeg
  · rw [if_pos z5] at h; cases h
  rw [if_neg z5] at h
  refine ldIm (k := 4) C hW (by decide) z5 dX12_readsSlip_5 ?_
  refine lv_bipush (v := (12 : Int32)) hx0 hb dX12_readsSlip_6 (by decide) ?_
  refine lv_icmp_ne (tgt := 17) hx0 hb dX12_readsSlip_8 (by decide) (fun c8 => ?_) (fun c8 => ?_)
  · rw [if_neg c8] at h
    refine lv_aload_n hx0 hb dX12_readsSlip_17 rfl (lv_at hl 0 rfl) ?_
    refine lv_iconst (v := (0 : Int32)) hx0 hb dX12_readsSlip_18 (by decide) ?_
    obtain ⟨v19, h19, h⟩ := bnd h
    try dsimp only at h
    refine w_callV (L := (LM E b)) (k := 0) (As := [.int (0 : Int32)]) (rest := []) C hW hS (show 0 < 18 by decide) cm0 kcX12 (mX12_leafRead (0 : Int32)  σ v19 h19) cwX12_leafRead cvX12_leafRead rfl mlX12_158 ⟨by decide, by decide⟩ rfl hl.1 (Nat.le_of_ble_eq_true rfl) ⟨by decide, by decide⟩ dX12_readsSlip_19 rfl (fun H locs hW hS => ?_)
    refine lv_istore_n (lv' := [(2, .int v19.1), (0, .ref (b + 0)), (1, .int x1)]) hx0 hb dX12_readsSlip_22 rfl hl (by decide) rfl (fun ls hl => ?_)
    refine lv_aload_n hx0 hb dX12_readsSlip_23 rfl (lv_at hl 1 rfl) ?_
    obtain ⟨v24, h24, h⟩ := bnd h
    try dsimp only at h
    refine w_callV (L := (LM E b)) (k := 0) (As := []) (rest := []) C hW hS (show 0 < 18 by decide) cm0 kcX12 (mX12_isFine   v19.2 v24 h24) cwX12_isFine cvX12_isFine rfl mlX12_118 ⟨by decide, by decide⟩ rfl hl.1 (Nat.le_of_ble_eq_true rfl) ⟨by decide, by decide⟩ dX12_readsSlip_24 rfl (fun H locs hW hS => ?_)
    refine lv_if_eq (tgt := 52) hx0 hb dX12_readsSlip_27 (by decide) (fun c27 => ?_) (fun c27 => ?_)
    · rw [if_pos c27] at h
      exact bX12_readsSlip_j52 C v19.1 v19.2 h _ _ _ hW hS (lv_sub hl [1, 0] rfl)
    · rw [if_neg c27] at h
      refine lv_aload_n hx0 hb dX12_readsSlip_30 rfl (lv_at hl 1 rfl) ?_
      refine gtX12_6 C hW flX12_23 dX12_readsSlip_31 ?_
      refine lv_sipush (v := (279 : Int32)) hx0 hb dX12_readsSlip_34 (by decide) ?_
      refine lv_iload_n hx0 hb dX12_readsSlip_37 rfl (lv_at hl 0 rfl) ?_
      refine lv_iadd hx0 hb dX12_readsSlip_38 ?_
      by_cases z39 : ((279 : Int32) + v19.1) < 0 ∨ lm 4 ≤ ((279 : Int32) + v19.1).toNatClampNeg
      · rw [if_pos z39] at h; cases h
      rw [if_neg z39] at h
      refine ldIm (k := 4) C hW (by decide) z39 dX12_readsSlip_39 ?_
      refine lv_iconst (v := (1 : Int32)) hx0 hb dX12_readsSlip_40 (by decide) ?_
      refine lv_icmp_ne (tgt := 52) hx0 hb dX12_readsSlip_41 (by decide) (fun c41 => ?_) (fun c41 => ?_)
      · rw [if_neg c41] at h
        exact bX12_readsSlip_j52 C v19.1 v19.2 h _ _ _ hW hS (lv_sub hl [1, 0] rfl)
      · rw [if_pos c41] at h
        refine lv_aload_n hx0 hb dX12_readsSlip_44 rfl (lv_at hl 1 rfl) ?_
        refine lv_aload_n hx0 hb dX12_readsSlip_45 rfl (lv_at hl 1 rfl) ?_
        refine gtX12_14 C hW flX12_112 dX12_readsSlip_46 ?_
        obtain ⟨v49, h49, h⟩ := bnd h
        try dsimp only at h
        refine w_callV (L := (LM E b)) (k := 0) (As := [.int (v19.2 0 14)]) (rest := []) C hW hS (show 0 < 18 by decide) cm0 kcX12 (mX12_wrongAt (v19.2 0 14)  v19.2 v49 h49) cwX12_wrongAt cvX12_wrongAt rfl mlX12_140 ⟨by decide, by decide⟩ rfl hl.1 (Nat.le_of_ble_eq_true rfl) ⟨by decide, by decide⟩ dX12_readsSlip_49 rfl (fun H locs hW hS => ?_)
        exact bX12_readsSlip_j52 C v19.1 v49 h _ _ _ hW hS (lv_sub hl [1, 0] rfl)
  · rw [if_pos c8] at h
    refine lv_aload_n hx0 hb dX12_readsSlip_11 rfl (lv_at hl 0 rfl) ?_
    refine lv_iload_n hx0 hb dX12_readsSlip_12 rfl (lv_at hl 1 rfl) ?_
    obtain ⟨v13, h13, h⟩ := bnd h
    try dsimp only at h
    refine w_callV (L := (LM E b)) (k := 0) (As := [.int x1]) (rest := []) C hW hS (show 0 < 18 by decide) cm0 kcX12 (mX12_wrongAt x1  σ v13 h13) cwX12_wrongAt cvX12_wrongAt rfl mlX12_140 ⟨by decide, by decide⟩ rfl hl.1 (Nat.le_of_ble_eq_true rfl) ⟨by decide, by decide⟩ dX12_readsSlip_13 rfl (fun H locs hW hS => ?_)
    cases h
    exact w_vret C hW hS dX12_readsSlip_16
def fX12_readsStyle (σ : Mem) : Option (Int32 × Mem) :=
  (fX12_takes 16 σ).bind fun v3 => if v3.1 = 0 then ((fX12_takes 17 v3.2).bind fun v16 => if v16.1 = 0 then ((fX12_takes 18 v16.2).bind fun v29 => if v29.1 = 0 then ((fX12_takes 19 v29.2).bind fun v42 => if v42.1 = 0 then (if (-1 : Int32) = (-1 : Int32) then ((fX12_tokenNow v42.2).bind fun v61 => (fX12_wrongAt v61.1 v61.2).bind fun v64 => some ((-1 : Int32), v64)) else (some ((-1 : Int32), v42.2))) else (if (3 : Int32) = (-1 : Int32) then ((fX12_tokenNow v42.2).bind fun v61 => (fX12_wrongAt v61.1 v61.2).bind fun v64 => some ((3 : Int32), v64)) else (some ((3 : Int32), v42.2)))) else (if (2 : Int32) = (-1 : Int32) then ((fX12_tokenNow v29.2).bind fun v61 => (fX12_wrongAt v61.1 v61.2).bind fun v64 => some ((2 : Int32), v64)) else (some ((2 : Int32), v29.2)))) else (if (1 : Int32) = (-1 : Int32) then ((fX12_tokenNow v16.2).bind fun v61 => (fX12_wrongAt v61.1 v61.2).bind fun v64 => some ((1 : Int32), v64)) else (some ((1 : Int32), v16.2)))) else (if (0 : Int32) = (-1 : Int32) then ((fX12_tokenNow v3.2).bind fun v61 => (fX12_wrongAt v61.1 v61.2).bind fun v64 => some ((0 : Int32), v64)) else (some ((0 : Int32), v3.2)))
set_option maxRecDepth 100000 in
set_option maxHeartbeats 4000000 in
theorem mX12_readsStyle {l : Launch} {E : Ev} {b : Nat} (σ : Mem) (r : (Int32 × Mem)) (h : fX12_readsStyle σ = some r) : Met l yX12_readsStyle (tw yX12_readsStyle cX12_readsStyle 2 (some .int)) { frames := 5, cells := 0, slots := 0, locals := 184 } (va_Pc [.ref (b + 0)] (Pr l E (LM E b) σ)) (Qz E (LM E b) (some (.int r.1)) r.2) 0 0 (La (LM E b)) := by
  refine ct_of (by decide) (Nat.le_of_ble_eq_true rfl) ?_
  intro p e s m below meth c C hW hS ls hl
  have hx0 := C.1
  have hb := C.2.1
  have hl : lv_has ls 2 [(0, .ref (b + 0))] := hl
  unfold fX12_readsStyle at h
  refine lv_aload_n hx0 hb dX12_readsStyle_0 rfl (lv_at hl 0 rfl) ?_
  refine w_ldcS C 16 rfl dX12_readsStyle_1 ?_
  obtain ⟨v3, h3, h⟩ := bnd h
  try dsimp only at h
  refine w_callV (L := (LM E b)) (k := 0) (As := [.ref (E.2.2.1 16)]) (rest := []) C hW hS (show 0 < 18 by decide) cm0 kcX12 (mX12_takes 16 (by decide : 16 < bytL.length) σ v3 h3) cwX12_takes cvX12_takes rfl mlX12_166 ⟨by decide, by decide⟩ rfl hl.1 (Nat.le_of_ble_eq_true rfl) ⟨by decide, by decide⟩ dX12_readsStyle_3 rfl (fun H locs hW hS => ?_)
  refine lv_if_eq (tgt := 13) hx0 hb dX12_readsStyle_6 (by decide) (fun c6 => ?_) (fun c6 => ?_)
  · rw [if_pos c6] at h
    refine lv_aload_n hx0 hb dX12_readsStyle_13 rfl (lv_at hl 0 rfl) ?_
    refine w_ldcS C 17 rfl dX12_readsStyle_14 ?_
    obtain ⟨v16, h16, h⟩ := bnd h
    try dsimp only at h
    refine w_callV (L := (LM E b)) (k := 0) (As := [.ref (E.2.2.1 17)]) (rest := []) C hW hS (show 0 < 18 by decide) cm0 kcX12 (mX12_takes 17 (by decide : 17 < bytL.length) v3.2 v16 h16) cwX12_takes cvX12_takes rfl mlX12_166 ⟨by decide, by decide⟩ rfl hl.1 (Nat.le_of_ble_eq_true rfl) ⟨by decide, by decide⟩ dX12_readsStyle_16 rfl (fun H locs hW hS => ?_)
    refine lv_if_eq (tgt := 26) hx0 hb dX12_readsStyle_19 (by decide) (fun c19 => ?_) (fun c19 => ?_)
    · rw [if_pos c19] at h
      refine lv_aload_n hx0 hb dX12_readsStyle_26 rfl (lv_at hl 0 rfl) ?_
      refine w_ldcS C 18 rfl dX12_readsStyle_27 ?_
      obtain ⟨v29, h29, h⟩ := bnd h
      try dsimp only at h
      refine w_callV (L := (LM E b)) (k := 0) (As := [.ref (E.2.2.1 18)]) (rest := []) C hW hS (show 0 < 18 by decide) cm0 kcX12 (mX12_takes 18 (by decide : 18 < bytL.length) v16.2 v29 h29) cwX12_takes cvX12_takes rfl mlX12_166 ⟨by decide, by decide⟩ rfl hl.1 (Nat.le_of_ble_eq_true rfl) ⟨by decide, by decide⟩ dX12_readsStyle_29 rfl (fun H locs hW hS => ?_)
      refine lv_if_eq (tgt := 39) hx0 hb dX12_readsStyle_32 (by decide) (fun c32 => ?_) (fun c32 => ?_)
      · rw [if_pos c32] at h
        refine lv_aload_n hx0 hb dX12_readsStyle_39 rfl (lv_at hl 0 rfl) ?_
        refine w_ldcS C 19 rfl dX12_readsStyle_40 ?_
        obtain ⟨v42, h42, h⟩ := bnd h
        try dsimp only at h
        refine w_callV (L := (LM E b)) (k := 0) (As := [.ref (E.2.2.1 19)]) (rest := []) C hW hS (show 0 < 18 by decide) cm0 kcX12 (mX12_takes 19 (by decide : 19 < bytL.length) v29.2 v42 h42) cwX12_takes cvX12_takes rfl mlX12_166 ⟨by decide, by decide⟩ rfl hl.1 (Nat.le_of_ble_eq_true rfl) ⟨by decide, by decide⟩ dX12_readsStyle_42 rfl (fun H locs hW hS => ?_)
        refine lv_if_eq (tgt := 52) hx0 hb dX12_readsStyle_45 (by decide) (fun c45 => ?_) (fun c45 => ?_)
        · rw [if_pos c45] at h
          refine lv_iconst (v := (-1 : Int32)) hx0 hb dX12_readsStyle_52 (by decide) ?_
          refine lv_istore_n (lv' := [(1, .int (-1 : Int32)), (0, .ref (b + 0))]) hx0 hb dX12_readsStyle_53 rfl hl (by decide) rfl (fun ls hl => ?_)
          refine lv_iload_n hx0 hb dX12_readsStyle_54 rfl (lv_at hl 0 rfl) ?_
          refine lv_iconst (v := (-1 : Int32)) hx0 hb dX12_readsStyle_55 (by decide) ?_
          refine lv_icmp_ne (tgt := 67) hx0 hb dX12_readsStyle_56 (by decide) (fun c56 => ?_) (fun c56 => ?_)
          · rw [if_neg c56] at h
            refine lv_iload_n hx0 hb dX12_readsStyle_67 rfl (lv_at hl 0 rfl) ?_
            cases h
            exact w_iret C hW hS dX12_readsStyle_68
          · rw [if_pos c56] at h
            refine lv_aload_n hx0 hb dX12_readsStyle_59 rfl (lv_at hl 1 rfl) ?_
            refine lv_aload_n hx0 hb dX12_readsStyle_60 rfl (lv_at hl 1 rfl) ?_
            obtain ⟨v61, h61, h⟩ := bnd h
            try dsimp only at h
            refine w_callV (L := (LM E b)) (k := 0) (As := []) (rest := [.ref (b + 0)]) C hW hS (show 0 < 18 by decide) cm0 kcX12 (mX12_tokenNow   v42.2 v61 h61) cwX12_tokenNow cvX12_tokenNow rfl mlX12_172 ⟨by decide, by decide⟩ rfl hl.1 (Nat.le_of_ble_eq_true rfl) ⟨by decide, by decide⟩ dX12_readsStyle_61 rfl (fun H locs hW hS => ?_)
            obtain ⟨v64, h64, h⟩ := bnd h
            try dsimp only at h
            refine w_callV (L := (LM E b)) (k := 0) (As := [.int v61.1]) (rest := []) C hW hS (show 0 < 18 by decide) cm0 kcX12 (mX12_wrongAt v61.1  v61.2 v64 h64) cwX12_wrongAt cvX12_wrongAt rfl mlX12_140 ⟨by decide, by decide⟩ rfl hl.1 (Nat.le_of_ble_eq_true rfl) ⟨by decide, by decide⟩ dX12_readsStyle_64 rfl (fun H locs hW hS => ?_)
            refine lv_iload_n hx0 hb dX12_readsStyle_67 rfl (lv_at hl 0 rfl) ?_
            cases h
            exact w_iret C hW hS dX12_readsStyle_68
        · rw [if_neg c45] at h
          refine lv_iconst (v := (3 : Int32)) hx0 hb dX12_readsStyle_48 (by decide) ?_
          refine lv_goto (tgt := 53) hx0 hb dX12_readsStyle_49 (by decide) ?_
          refine lv_istore_n (lv' := [(1, .int (3 : Int32)), (0, .ref (b + 0))]) hx0 hb dX12_readsStyle_53 rfl hl (by decide) rfl (fun ls hl => ?_)
          refine lv_iload_n hx0 hb dX12_readsStyle_54 rfl (lv_at hl 0 rfl) ?_
          refine lv_iconst (v := (-1 : Int32)) hx0 hb dX12_readsStyle_55 (by decide) ?_
          refine lv_icmp_ne (tgt := 67) hx0 hb dX12_readsStyle_56 (by decide) (fun c56 => ?_) (fun c56 => ?_)
          · rw [if_neg c56] at h
            refine lv_iload_n hx0 hb dX12_readsStyle_67 rfl (lv_at hl 0 rfl) ?_
            cases h
            exact w_iret C hW hS dX12_readsStyle_68
          · rw [if_pos c56] at h
            refine lv_aload_n hx0 hb dX12_readsStyle_59 rfl (lv_at hl 1 rfl) ?_
            refine lv_aload_n hx0 hb dX12_readsStyle_60 rfl (lv_at hl 1 rfl) ?_
            obtain ⟨v61, h61, h⟩ := bnd h
            try dsimp only at h
            refine w_callV (L := (LM E b)) (k := 0) (As := []) (rest := [.ref (b + 0)]) C hW hS (show 0 < 18 by decide) cm0 kcX12 (mX12_tokenNow   v42.2 v61 h61) cwX12_tokenNow cvX12_tokenNow rfl mlX12_172 ⟨by decide, by decide⟩ rfl hl.1 (Nat.le_of_ble_eq_true rfl) ⟨by decide, by decide⟩ dX12_readsStyle_61 rfl (fun H locs hW hS => ?_)
            obtain ⟨v64, h64, h⟩ := bnd h
            try dsimp only at h
            refine w_callV (L := (LM E b)) (k := 0) (As := [.int v61.1]) (rest := []) C hW hS (show 0 < 18 by decide) cm0 kcX12 (mX12_wrongAt v61.1  v61.2 v64 h64) cwX12_wrongAt cvX12_wrongAt rfl mlX12_140 ⟨by decide, by decide⟩ rfl hl.1 (Nat.le_of_ble_eq_true rfl) ⟨by decide, by decide⟩ dX12_readsStyle_64 rfl (fun H locs hW hS => ?_)
            refine lv_iload_n hx0 hb dX12_readsStyle_67 rfl (lv_at hl 0 rfl) ?_
            cases h
            exact w_iret C hW hS dX12_readsStyle_68
      · rw [if_neg c32] at h
        refine lv_iconst (v := (2 : Int32)) hx0 hb dX12_readsStyle_35 (by decide) ?_
        refine lv_goto (tgt := 53) hx0 hb dX12_readsStyle_36 (by decide) ?_
        refine lv_istore_n (lv' := [(1, .int (2 : Int32)), (0, .ref (b + 0))]) hx0 hb dX12_readsStyle_53 rfl hl (by decide) rfl (fun ls hl => ?_)
        refine lv_iload_n hx0 hb dX12_readsStyle_54 rfl (lv_at hl 0 rfl) ?_
        refine lv_iconst (v := (-1 : Int32)) hx0 hb dX12_readsStyle_55 (by decide) ?_
        refine lv_icmp_ne (tgt := 67) hx0 hb dX12_readsStyle_56 (by decide) (fun c56 => ?_) (fun c56 => ?_)
        · rw [if_neg c56] at h
          refine lv_iload_n hx0 hb dX12_readsStyle_67 rfl (lv_at hl 0 rfl) ?_
          cases h
          exact w_iret C hW hS dX12_readsStyle_68
        · rw [if_pos c56] at h
          refine lv_aload_n hx0 hb dX12_readsStyle_59 rfl (lv_at hl 1 rfl) ?_
          refine lv_aload_n hx0 hb dX12_readsStyle_60 rfl (lv_at hl 1 rfl) ?_
          obtain ⟨v61, h61, h⟩ := bnd h
          try dsimp only at h
          refine w_callV (L := (LM E b)) (k := 0) (As := []) (rest := [.ref (b + 0)]) C hW hS (show 0 < 18 by decide) cm0 kcX12 (mX12_tokenNow   v29.2 v61 h61) cwX12_tokenNow cvX12_tokenNow rfl mlX12_172 ⟨by decide, by decide⟩ rfl hl.1 (Nat.le_of_ble_eq_true rfl) ⟨by decide, by decide⟩ dX12_readsStyle_61 rfl (fun H locs hW hS => ?_)
          obtain ⟨v64, h64, h⟩ := bnd h
          try dsimp only at h
          refine w_callV (L := (LM E b)) (k := 0) (As := [.int v61.1]) (rest := []) C hW hS (show 0 < 18 by decide) cm0 kcX12 (mX12_wrongAt v61.1  v61.2 v64 h64) cwX12_wrongAt cvX12_wrongAt rfl mlX12_140 ⟨by decide, by decide⟩ rfl hl.1 (Nat.le_of_ble_eq_true rfl) ⟨by decide, by decide⟩ dX12_readsStyle_64 rfl (fun H locs hW hS => ?_)
          refine lv_iload_n hx0 hb dX12_readsStyle_67 rfl (lv_at hl 0 rfl) ?_
          cases h
          exact w_iret C hW hS dX12_readsStyle_68
    · rw [if_neg c19] at h
      refine lv_iconst (v := (1 : Int32)) hx0 hb dX12_readsStyle_22 (by decide) ?_
      refine lv_goto (tgt := 53) hx0 hb dX12_readsStyle_23 (by decide) ?_
      refine lv_istore_n (lv' := [(1, .int (1 : Int32)), (0, .ref (b + 0))]) hx0 hb dX12_readsStyle_53 rfl hl (by decide) rfl (fun ls hl => ?_)
      refine lv_iload_n hx0 hb dX12_readsStyle_54 rfl (lv_at hl 0 rfl) ?_
      refine lv_iconst (v := (-1 : Int32)) hx0 hb dX12_readsStyle_55 (by decide) ?_
      refine lv_icmp_ne (tgt := 67) hx0 hb dX12_readsStyle_56 (by decide) (fun c56 => ?_) (fun c56 => ?_)
      · rw [if_neg c56] at h
        refine lv_iload_n hx0 hb dX12_readsStyle_67 rfl (lv_at hl 0 rfl) ?_
        cases h
        exact w_iret C hW hS dX12_readsStyle_68
      · rw [if_pos c56] at h
        refine lv_aload_n hx0 hb dX12_readsStyle_59 rfl (lv_at hl 1 rfl) ?_
        refine lv_aload_n hx0 hb dX12_readsStyle_60 rfl (lv_at hl 1 rfl) ?_
        obtain ⟨v61, h61, h⟩ := bnd h
        try dsimp only at h
        refine w_callV (L := (LM E b)) (k := 0) (As := []) (rest := [.ref (b + 0)]) C hW hS (show 0 < 18 by decide) cm0 kcX12 (mX12_tokenNow   v16.2 v61 h61) cwX12_tokenNow cvX12_tokenNow rfl mlX12_172 ⟨by decide, by decide⟩ rfl hl.1 (Nat.le_of_ble_eq_true rfl) ⟨by decide, by decide⟩ dX12_readsStyle_61 rfl (fun H locs hW hS => ?_)
        obtain ⟨v64, h64, h⟩ := bnd h
        try dsimp only at h
        refine w_callV (L := (LM E b)) (k := 0) (As := [.int v61.1]) (rest := []) C hW hS (show 0 < 18 by decide) cm0 kcX12 (mX12_wrongAt v61.1  v61.2 v64 h64) cwX12_wrongAt cvX12_wrongAt rfl mlX12_140 ⟨by decide, by decide⟩ rfl hl.1 (Nat.le_of_ble_eq_true rfl) ⟨by decide, by decide⟩ dX12_readsStyle_64 rfl (fun H locs hW hS => ?_)
        refine lv_iload_n hx0 hb dX12_readsStyle_67 rfl (lv_at hl 0 rfl) ?_
        cases h
        exact w_iret C hW hS dX12_readsStyle_68
  · rw [if_neg c6] at h
    refine lv_iconst (v := (0 : Int32)) hx0 hb dX12_readsStyle_9 (by decide) ?_
    refine lv_goto (tgt := 53) hx0 hb dX12_readsStyle_10 (by decide) ?_
    refine lv_istore_n (lv' := [(1, .int (0 : Int32)), (0, .ref (b + 0))]) hx0 hb dX12_readsStyle_53 rfl hl (by decide) rfl (fun ls hl => ?_)
    refine lv_iload_n hx0 hb dX12_readsStyle_54 rfl (lv_at hl 0 rfl) ?_
    refine lv_iconst (v := (-1 : Int32)) hx0 hb dX12_readsStyle_55 (by decide) ?_
    refine lv_icmp_ne (tgt := 67) hx0 hb dX12_readsStyle_56 (by decide) (fun c56 => ?_) (fun c56 => ?_)
    · rw [if_neg c56] at h
      refine lv_iload_n hx0 hb dX12_readsStyle_67 rfl (lv_at hl 0 rfl) ?_
      cases h
      exact w_iret C hW hS dX12_readsStyle_68
    · rw [if_pos c56] at h
      refine lv_aload_n hx0 hb dX12_readsStyle_59 rfl (lv_at hl 1 rfl) ?_
      refine lv_aload_n hx0 hb dX12_readsStyle_60 rfl (lv_at hl 1 rfl) ?_
      obtain ⟨v61, h61, h⟩ := bnd h
      try dsimp only at h
      refine w_callV (L := (LM E b)) (k := 0) (As := []) (rest := [.ref (b + 0)]) C hW hS (show 0 < 18 by decide) cm0 kcX12 (mX12_tokenNow   v3.2 v61 h61) cwX12_tokenNow cvX12_tokenNow rfl mlX12_172 ⟨by decide, by decide⟩ rfl hl.1 (Nat.le_of_ble_eq_true rfl) ⟨by decide, by decide⟩ dX12_readsStyle_61 rfl (fun H locs hW hS => ?_)
      obtain ⟨v64, h64, h⟩ := bnd h
      try dsimp only at h
      refine w_callV (L := (LM E b)) (k := 0) (As := [.int v61.1]) (rest := []) C hW hS (show 0 < 18 by decide) cm0 kcX12 (mX12_wrongAt v61.1  v61.2 v64 h64) cwX12_wrongAt cvX12_wrongAt rfl mlX12_140 ⟨by decide, by decide⟩ rfl hl.1 (Nat.le_of_ble_eq_true rfl) ⟨by decide, by decide⟩ dX12_readsStyle_64 rfl (fun H locs hW hS => ?_)
      refine lv_iload_n hx0 hb dX12_readsStyle_67 rfl (lv_at hl 0 rfl) ?_
      cases h
      exact w_iret C hW hS dX12_readsStyle_68
def fX12_readsLabel (x1 : Int32) (σ : Mem) : Option Mem :=
  if (1 : Int32) < 0 ∨ lm 4 ≤ (1 : Int32).toNatClampNeg then none else if (σ 4 (1 : Int32).toNatClampNeg) = (12 : Int32) then ((fX12_wrongAt x1 σ).bind fun v13 => some v13) else (if (1 : Int32) < 0 ∨ lm 4 ≤ (1 : Int32).toNatClampNeg then none else (fX12_leafRead (0 : Int32) σ).bind fun v36 => if ((41 : Int32) + ((4 : Int32) * (σ 4 (1 : Int32).toNatClampNeg))) < 0 ∨ lm 4 ≤ ((41 : Int32) + ((4 : Int32) * (σ 4 (1 : Int32).toNatClampNeg))).toNatClampNeg then none else if ((41 : Int32) + ((4 : Int32) * (σ 4 (1 : Int32).toNatClampNeg))) < 0 ∨ lm 4 ≤ ((41 : Int32) + ((4 : Int32) * (σ 4 (1 : Int32).toNatClampNeg))).toNatClampNeg then none else (fX12_leafRead ((up v36.2 4 ((41 : Int32) + ((4 : Int32) * (σ 4 (1 : Int32).toNatClampNeg))).toNatClampNeg v36.1) 4 ((41 : Int32) + ((4 : Int32) * (σ 4 (1 : Int32).toNatClampNeg))).toNatClampNeg) (up v36.2 4 ((41 : Int32) + ((4 : Int32) * (σ 4 (1 : Int32).toNatClampNeg))).toNatClampNeg v36.1)).bind fun v54 => if (((41 : Int32) + ((4 : Int32) * (σ 4 (1 : Int32).toNatClampNeg))) + (1 : Int32)) < 0 ∨ lm 4 ≤ (((41 : Int32) + ((4 : Int32) * (σ 4 (1 : Int32).toNatClampNeg))) + (1 : Int32)).toNatClampNeg then none else (fX12_readsStyle (up v54.2 4 (((41 : Int32) + ((4 : Int32) * (σ 4 (1 : Int32).toNatClampNeg))) + (1 : Int32)).toNatClampNeg v54.1)).bind fun v66 => if (((41 : Int32) + ((4 : Int32) * (σ 4 (1 : Int32).toNatClampNeg))) + (2 : Int32)) < 0 ∨ lm 4 ≤ (((41 : Int32) + ((4 : Int32) * (σ 4 (1 : Int32).toNatClampNeg))) + (2 : Int32)).toNatClampNeg then none else (fX12_number (1 : Int32) (999 : Int32) (up v66.2 4 (((41 : Int32) + ((4 : Int32) * (σ 4 (1 : Int32).toNatClampNeg))) + (2 : Int32)).toNatClampNeg v66.1)).bind fun v82 => if (((41 : Int32) + ((4 : Int32) * (σ 4 (1 : Int32).toNatClampNeg))) + (3 : Int32)) < 0 ∨ lm 4 ≤ (((41 : Int32) + ((4 : Int32) * (σ 4 (1 : Int32).toNatClampNeg))) + (3 : Int32)).toNatClampNeg then none else if (1 : Int32) < 0 ∨ lm 4 ≤ (1 : Int32).toNatClampNeg then none else if (1 : Int32) < 0 ∨ lm 4 ≤ (1 : Int32).toNatClampNeg then none else some (up (up v82.2 4 (((41 : Int32) + ((4 : Int32) * (σ 4 (1 : Int32).toNatClampNeg))) + (3 : Int32)).toNatClampNeg v82.1) 4 (1 : Int32).toNatClampNeg (((up v82.2 4 (((41 : Int32) + ((4 : Int32) * (σ 4 (1 : Int32).toNatClampNeg))) + (3 : Int32)).toNatClampNeg v82.1) 4 (1 : Int32).toNatClampNeg) + (1 : Int32))))
set_option maxRecDepth 100000 in
set_option maxHeartbeats 4000000 in
theorem mX12_readsLabel {l : Launch} {E : Ev} {b : Nat} (x1 : Int32) (σ : Mem) (r : Mem) (h : fX12_readsLabel x1 σ = some r) : Met l yX12_readsLabel (tw yX12_readsLabel cX12_readsLabel 3 none) { frames := 6, cells := 0, slots := 0, locals := 205 } (va_Pc [.ref (b + 0), .int x1] (Pr l E (LM E b) σ)) (Qz E (LM E b) none r) 0 0 (La (LM E b)) := by
  refine ct_of (by decide) (Nat.le_of_ble_eq_true rfl) ?_
  intro p e s m below meth c C hW hS ls hl
  have hx0 := C.1
  have hb := C.2.1
  have hl : lv_has ls 3 [(0, .ref (b + 0)), (1, .int x1)] := hl
  unfold fX12_readsLabel at h
  refine lv_aload_n hx0 hb dX12_readsLabel_0 rfl (lv_at hl 0 rfl) ?_
  refine gtX12_6 C hW flX12_23 dX12_readsLabel_1 ?_
  refine lv_iconst (v := (1 : Int32)) hx0 hb dX12_readsLabel_4 (by decide) ?_
  by_cases z5 : (1 : Int32) < 0 ∨ lm 4 ≤ (1 : Int32).toNatClampNeg
  · rw [if_pos z5] at h; cases h
  rw [if_neg z5] at h
  refine ldIm (k := 4) C hW (by decide) z5 dX12_readsLabel_5 ?_
  refine lv_bipush (v := (12 : Int32)) hx0 hb dX12_readsLabel_6 (by decide) ?_
  refine lv_icmp_ne (tgt := 17) hx0 hb dX12_readsLabel_8 (by decide) (fun c8 => ?_) (fun c8 => ?_)
  · rw [if_neg c8] at h
    refine lv_bipush (v := (41 : Int32)) hx0 hb dX12_readsLabel_17 (by decide) ?_
    refine lv_iconst (v := (4 : Int32)) hx0 hb dX12_readsLabel_19 (by decide) ?_
    refine lv_aload_n hx0 hb dX12_readsLabel_20 rfl (lv_at hl 0 rfl) ?_
    refine gtX12_6 C hW flX12_23 dX12_readsLabel_21 ?_
    refine lv_iconst (v := (1 : Int32)) hx0 hb dX12_readsLabel_24 (by decide) ?_
    by_cases z25 : (1 : Int32) < 0 ∨ lm 4 ≤ (1 : Int32).toNatClampNeg
    · rw [if_pos z25] at h; cases h
    rw [if_neg z25] at h
    refine ldIm (k := 4) C hW (by decide) z25 dX12_readsLabel_25 ?_
    refine lv_imul hx0 hb dX12_readsLabel_26 ?_
    refine lv_iadd hx0 hb dX12_readsLabel_27 ?_
    refine lv_istore_n (lv' := [(2, .int ((41 : Int32) + ((4 : Int32) * (σ 4 (1 : Int32).toNatClampNeg)))), (0, .ref (b + 0)), (1, .int x1)]) hx0 hb dX12_readsLabel_28 rfl hl (by decide) rfl (fun ls hl => ?_)
    refine lv_aload_n hx0 hb dX12_readsLabel_29 rfl (lv_at hl 1 rfl) ?_
    refine gtX12_6 C hW flX12_23 dX12_readsLabel_30 ?_
    refine lv_iload_n hx0 hb dX12_readsLabel_33 rfl (lv_at hl 0 rfl) ?_
    refine lv_aload_n hx0 hb dX12_readsLabel_34 rfl (lv_at hl 1 rfl) ?_
    refine lv_iconst (v := (0 : Int32)) hx0 hb dX12_readsLabel_35 (by decide) ?_
    obtain ⟨v36, h36, h⟩ := bnd h
    try dsimp only at h
    refine w_callV (L := (LM E b)) (k := 0) (As := [.int (0 : Int32)]) (rest := [.int ((41 : Int32) + ((4 : Int32) * (σ 4 (1 : Int32).toNatClampNeg))), .ref (b + 4)]) C hW hS (show 0 < 18 by decide) cm0 kcX12 (mX12_leafRead (0 : Int32)  σ v36 h36) cwX12_leafRead cvX12_leafRead rfl mlX12_158 ⟨by decide, by decide⟩ rfl hl.1 (Nat.le_of_ble_eq_true rfl) ⟨by decide, by decide⟩ dX12_readsLabel_36 rfl (fun H locs hW hS => ?_)
    by_cases z39 : ((41 : Int32) + ((4 : Int32) * (σ 4 (1 : Int32).toNatClampNeg))) < 0 ∨ lm 4 ≤ ((41 : Int32) + ((4 : Int32) * (σ 4 (1 : Int32).toNatClampNeg))).toNatClampNeg
    · rw [if_pos z39] at h; cases h
    rw [if_neg z39] at h
    refine saIm (k := 4) C hW hS (by decide) z39 dX12_readsLabel_39 (fun H locs hW hS => ?_)
    refine lv_aload_n hx0 hb dX12_readsLabel_40 rfl (lv_at hl 1 rfl) ?_
    refine gtX12_6 C hW flX12_23 dX12_readsLabel_41 ?_
    refine lv_iload_n hx0 hb dX12_readsLabel_44 rfl (lv_at hl 0 rfl) ?_
    refine lv_iconst (v := (1 : Int32)) hx0 hb dX12_readsLabel_45 (by decide) ?_
    refine lv_iadd hx0 hb dX12_readsLabel_46 ?_
    refine lv_aload_n hx0 hb dX12_readsLabel_47 rfl (lv_at hl 1 rfl) ?_
    refine lv_aload_n hx0 hb dX12_readsLabel_48 rfl (lv_at hl 1 rfl) ?_
    refine gtX12_6 C hW flX12_23 dX12_readsLabel_49 ?_
    refine lv_iload_n hx0 hb dX12_readsLabel_52 rfl (lv_at hl 0 rfl) ?_
    by_cases z53 : ((41 : Int32) + ((4 : Int32) * (σ 4 (1 : Int32).toNatClampNeg))) < 0 ∨ lm 4 ≤ ((41 : Int32) + ((4 : Int32) * (σ 4 (1 : Int32).toNatClampNeg))).toNatClampNeg
    · rw [if_pos z53] at h; cases h
    rw [if_neg z53] at h
    refine ldIm (k := 4) C hW (by decide) z53 dX12_readsLabel_53 ?_
    obtain ⟨v54, h54, h⟩ := bnd h
    try dsimp only at h
    refine w_callV (L := (LM E b)) (k := 0) (As := [.int ((up v36.2 4 ((41 : Int32) + ((4 : Int32) * (σ 4 (1 : Int32).toNatClampNeg))).toNatClampNeg v36.1) 4 ((41 : Int32) + ((4 : Int32) * (σ 4 (1 : Int32).toNatClampNeg))).toNatClampNeg)]) (rest := [.int (((41 : Int32) + ((4 : Int32) * (σ 4 (1 : Int32).toNatClampNeg))) + (1 : Int32)), .ref (b + 4)]) C hW hS (show 0 < 18 by decide) cm0 kcX12 (mX12_leafRead ((up v36.2 4 ((41 : Int32) + ((4 : Int32) * (σ 4 (1 : Int32).toNatClampNeg))).toNatClampNeg v36.1) 4 ((41 : Int32) + ((4 : Int32) * (σ 4 (1 : Int32).toNatClampNeg))).toNatClampNeg)  (up v36.2 4 ((41 : Int32) + ((4 : Int32) * (σ 4 (1 : Int32).toNatClampNeg))).toNatClampNeg v36.1) v54 h54) cwX12_leafRead cvX12_leafRead rfl mlX12_158 ⟨by decide, by decide⟩ rfl hl.1 (Nat.le_of_ble_eq_true rfl) ⟨by decide, by decide⟩ dX12_readsLabel_54 rfl (fun H locs hW hS => ?_)
    by_cases z57 : (((41 : Int32) + ((4 : Int32) * (σ 4 (1 : Int32).toNatClampNeg))) + (1 : Int32)) < 0 ∨ lm 4 ≤ (((41 : Int32) + ((4 : Int32) * (σ 4 (1 : Int32).toNatClampNeg))) + (1 : Int32)).toNatClampNeg
    · rw [if_pos z57] at h; cases h
    rw [if_neg z57] at h
    refine saIm (k := 4) C hW hS (by decide) z57 dX12_readsLabel_57 (fun H locs hW hS => ?_)
    refine lv_aload_n hx0 hb dX12_readsLabel_58 rfl (lv_at hl 1 rfl) ?_
    refine gtX12_6 C hW flX12_23 dX12_readsLabel_59 ?_
    refine lv_iload_n hx0 hb dX12_readsLabel_62 rfl (lv_at hl 0 rfl) ?_
    refine lv_iconst (v := (2 : Int32)) hx0 hb dX12_readsLabel_63 (by decide) ?_
    refine lv_iadd hx0 hb dX12_readsLabel_64 ?_
    refine lv_aload_n hx0 hb dX12_readsLabel_65 rfl (lv_at hl 1 rfl) ?_
    obtain ⟨v66, h66, h⟩ := bnd h
    try dsimp only at h
    refine w_callV (L := (LM E b)) (k := 0) (As := []) (rest := [.int (((41 : Int32) + ((4 : Int32) * (σ 4 (1 : Int32).toNatClampNeg))) + (2 : Int32)), .ref (b + 4)]) C hW hS (show 0 < 18 by decide) cm0 kcX12 (mX12_readsStyle   (up v54.2 4 (((41 : Int32) + ((4 : Int32) * (σ 4 (1 : Int32).toNatClampNeg))) + (1 : Int32)).toNatClampNeg v54.1) v66 h66) cwX12_readsStyle cvX12_readsStyle rfl mlX12_183 ⟨by decide, by decide⟩ rfl hl.1 (Nat.le_of_ble_eq_true rfl) ⟨by decide, by decide⟩ dX12_readsLabel_66 rfl (fun H locs hW hS => ?_)
    by_cases z69 : (((41 : Int32) + ((4 : Int32) * (σ 4 (1 : Int32).toNatClampNeg))) + (2 : Int32)) < 0 ∨ lm 4 ≤ (((41 : Int32) + ((4 : Int32) * (σ 4 (1 : Int32).toNatClampNeg))) + (2 : Int32)).toNatClampNeg
    · rw [if_pos z69] at h; cases h
    rw [if_neg z69] at h
    refine saIm (k := 4) C hW hS (by decide) z69 dX12_readsLabel_69 (fun H locs hW hS => ?_)
    refine lv_aload_n hx0 hb dX12_readsLabel_70 rfl (lv_at hl 1 rfl) ?_
    refine gtX12_6 C hW flX12_23 dX12_readsLabel_71 ?_
    refine lv_iload_n hx0 hb dX12_readsLabel_74 rfl (lv_at hl 0 rfl) ?_
    refine lv_iconst (v := (3 : Int32)) hx0 hb dX12_readsLabel_75 (by decide) ?_
    refine lv_iadd hx0 hb dX12_readsLabel_76 ?_
    refine lv_aload_n hx0 hb dX12_readsLabel_77 rfl (lv_at hl 1 rfl) ?_
    refine lv_iconst (v := (1 : Int32)) hx0 hb dX12_readsLabel_78 (by decide) ?_
    refine lv_sipush (v := (999 : Int32)) hx0 hb dX12_readsLabel_79 (by decide) ?_
    obtain ⟨v82, h82, h⟩ := bnd h
    try dsimp only at h
    refine w_callV (L := (LM E b)) (k := 0) (As := [.int (1 : Int32), .int (999 : Int32)]) (rest := [.int (((41 : Int32) + ((4 : Int32) * (σ 4 (1 : Int32).toNatClampNeg))) + (3 : Int32)), .ref (b + 4)]) C hW hS (show 0 < 18 by decide) cm0 kcX12 (mX12_number (1 : Int32) (999 : Int32)  (up v66.2 4 (((41 : Int32) + ((4 : Int32) * (σ 4 (1 : Int32).toNatClampNeg))) + (2 : Int32)).toNatClampNeg v66.1) v82 h82) cwX12_number cvX12_number rfl mlX12_146 ⟨by decide, by decide⟩ rfl hl.1 (Nat.le_of_ble_eq_true rfl) ⟨by decide, by decide⟩ dX12_readsLabel_82 rfl (fun H locs hW hS => ?_)
    by_cases z85 : (((41 : Int32) + ((4 : Int32) * (σ 4 (1 : Int32).toNatClampNeg))) + (3 : Int32)) < 0 ∨ lm 4 ≤ (((41 : Int32) + ((4 : Int32) * (σ 4 (1 : Int32).toNatClampNeg))) + (3 : Int32)).toNatClampNeg
    · rw [if_pos z85] at h; cases h
    rw [if_neg z85] at h
    refine saIm (k := 4) C hW hS (by decide) z85 dX12_readsLabel_85 (fun H locs hW hS => ?_)
    refine lv_aload_n hx0 hb dX12_readsLabel_86 rfl (lv_at hl 1 rfl) ?_
    refine gtX12_6 C hW flX12_23 dX12_readsLabel_87 ?_
    refine lv_iconst (v := (1 : Int32)) hx0 hb dX12_readsLabel_90 (by decide) ?_
    refine lv_dup2_11 hx0 hb dX12_readsLabel_91 rfl rfl ?_
    by_cases z92 : (1 : Int32) < 0 ∨ lm 4 ≤ (1 : Int32).toNatClampNeg
    · rw [if_pos z92] at h; cases h
    rw [if_neg z92] at h
    refine ldIm (k := 4) C hW (by decide) z92 dX12_readsLabel_92 ?_
    refine lv_iconst (v := (1 : Int32)) hx0 hb dX12_readsLabel_93 (by decide) ?_
    refine lv_iadd hx0 hb dX12_readsLabel_94 ?_
    by_cases z95 : (1 : Int32) < 0 ∨ lm 4 ≤ (1 : Int32).toNatClampNeg
    · rw [if_pos z95] at h; cases h
    rw [if_neg z95] at h
    refine saIm (k := 4) C hW hS (by decide) z95 dX12_readsLabel_95 (fun H locs hW hS => ?_)
    cases h
    exact w_vret C hW hS dX12_readsLabel_96
  · rw [if_pos c8] at h
    refine lv_aload_n hx0 hb dX12_readsLabel_11 rfl (lv_at hl 0 rfl) ?_
    refine lv_iload_n hx0 hb dX12_readsLabel_12 rfl (lv_at hl 1 rfl) ?_
    obtain ⟨v13, h13, h⟩ := bnd h
    try dsimp only at h
    refine w_callV (L := (LM E b)) (k := 0) (As := [.int x1]) (rest := []) C hW hS (show 0 < 18 by decide) cm0 kcX12 (mX12_wrongAt x1  σ v13 h13) cwX12_wrongAt cvX12_wrongAt rfl mlX12_140 ⟨by decide, by decide⟩ rfl hl.1 (Nat.le_of_ble_eq_true rfl) ⟨by decide, by decide⟩ dX12_readsLabel_13 rfl (fun H locs hW hS => ?_)
    cases h
    exact w_vret C hW hS dX12_readsLabel_16
def fX12_readsStatement (x1 : Int32) (σ : Mem) : Option Mem :=
  (fX12_look σ).bind fun v1 => (fX12_takes 10 v1.2).bind fun v13 => if v13.1 = 0 then (if x1 = 0 then ((fX12_takes 11 v13.2).bind fun v42 => if v42.1 = 0 then ((fX12_takes 12 v42.2).bind fun v58 => if v58.1 = 0 then ((fX12_takes 15 v58.2).bind fun v75 => if v75.1 = 0 then ((fX12_wrongAt (v1.2 0 14) v75.2).bind fun v91 => some v91) else ((fX12_readsLabel (v1.2 0 14) v75.2).bind fun v83 => some v83)) else ((fX12_readsSlip (v1.2 0 14) v58.2).bind fun v66 => some v66)) else ((fX12_readsMissing v42.2).bind fun v49 => some v49)) else ((fX12_wrongAt (v1.2 0 14) v13.2).bind fun v33 => some v33)) else ((fX12_readsQuire (v1.2 0 14) v13.2).bind fun v21 => some v21)
set_option maxRecDepth 100000 in
set_option maxHeartbeats 4000000 in
theorem mX12_readsStatement {l : Launch} {E : Ev} {b : Nat} (x1 : Int32) (σ : Mem) (r : Mem) (h : fX12_readsStatement x1 σ = some r) : Met l yX12_readsStatement (tw yX12_readsStatement cX12_readsStatement 4 none) { frames := 7, cells := 0, slots := 0, locals := 227 } (va_Pc [.ref (b + 0), .int x1] (Pr l E (LM E b) σ)) (Qz E (LM E b) none r) 0 0 (La (LM E b)) := by
  refine ct_of (by decide) (Nat.le_of_ble_eq_true rfl) ?_
  intro p e s m below meth c C hW hS ls hl
  have hx0 := C.1
  have hb := C.2.1
  have hl : lv_has ls 4 [(0, .ref (b + 0)), (1, .int x1)] := hl
  unfold fX12_readsStatement at h
  refine lv_aload_n hx0 hb dX12_readsStatement_0 rfl (lv_at hl 0 rfl) ?_
  obtain ⟨v1, h1, h⟩ := bnd h
  try dsimp only at h
  refine w_callV (L := (LM E b)) (k := 0) (As := []) (rest := []) C hW hS (show 0 < 18 by decide) cm0 kcX12 (mX12_look   σ v1 h1) cwX12_look cvX12_look rfl mlX12_122 ⟨by decide, by decide⟩ rfl hl.1 (Nat.le_of_ble_eq_true rfl) ⟨by decide, by decide⟩ dX12_readsStatement_1 rfl (fun H locs hW hS => ?_)
  refine lv_istore_n (lv' := [(2, .int v1.1), (0, .ref (b + 0)), (1, .int x1)]) hx0 hb dX12_readsStatement_4 rfl hl (by decide) rfl (fun ls hl => ?_)
  refine lv_aload_n hx0 hb dX12_readsStatement_5 rfl (lv_at hl 1 rfl) ?_
  refine gtX12_14 C hW flX12_112 dX12_readsStatement_6 ?_
  refine lv_istore_n (lv' := [(3, .int (v1.2 0 14)), (2, .int v1.1), (0, .ref (b + 0)), (1, .int x1)]) hx0 hb dX12_readsStatement_9 rfl hl (by decide) rfl (fun ls hl => ?_)
  refine lv_aload_n hx0 hb dX12_readsStatement_10 rfl (lv_at hl 2 rfl) ?_
  refine w_ldcS C 10 rfl dX12_readsStatement_11 ?_
  obtain ⟨v13, h13, h⟩ := bnd h
  try dsimp only at h
  refine w_callV (L := (LM E b)) (k := 0) (As := [.ref (E.2.2.1 10)]) (rest := []) C hW hS (show 0 < 18 by decide) cm0 kcX12 (mX12_takes 10 (by decide : 10 < bytL.length) v1.2 v13 h13) cwX12_takes cvX12_takes rfl mlX12_166 ⟨by decide, by decide⟩ rfl hl.1 (Nat.le_of_ble_eq_true rfl) ⟨by decide, by decide⟩ dX12_readsStatement_13 rfl (fun H locs hW hS => ?_)
  refine lv_if_eq (tgt := 27) hx0 hb dX12_readsStatement_16 (by decide) (fun c16 => ?_) (fun c16 => ?_)
  · rw [if_pos c16] at h
    refine lv_iload_n hx0 hb dX12_readsStatement_27 rfl (lv_at hl 3 rfl) ?_
    refine lv_if_eq (tgt := 39) hx0 hb dX12_readsStatement_28 (by decide) (fun c28 => ?_) (fun c28 => ?_)
    · rw [if_pos c28] at h
      refine lv_aload_n hx0 hb dX12_readsStatement_39 rfl (lv_at hl 2 rfl) ?_
      refine w_ldcS C 11 rfl dX12_readsStatement_40 ?_
      obtain ⟨v42, h42, h⟩ := bnd h
      try dsimp only at h
      refine w_callV (L := (LM E b)) (k := 0) (As := [.ref (E.2.2.1 11)]) (rest := []) C hW hS (show 0 < 18 by decide) cm0 kcX12 (mX12_takes 11 (by decide : 11 < bytL.length) v13.2 v42 h42) cwX12_takes cvX12_takes rfl mlX12_166 ⟨by decide, by decide⟩ rfl hl.1 (Nat.le_of_ble_eq_true rfl) ⟨by decide, by decide⟩ dX12_readsStatement_42 rfl (fun H locs hW hS => ?_)
      refine lv_if_eq (tgt := 55) hx0 hb dX12_readsStatement_45 (by decide) (fun c45 => ?_) (fun c45 => ?_)
      · rw [if_pos c45] at h
        refine lv_aload_n hx0 hb dX12_readsStatement_55 rfl (lv_at hl 2 rfl) ?_
        refine w_ldcS C 12 rfl dX12_readsStatement_56 ?_
        obtain ⟨v58, h58, h⟩ := bnd h
        try dsimp only at h
        refine w_callV (L := (LM E b)) (k := 0) (As := [.ref (E.2.2.1 12)]) (rest := []) C hW hS (show 0 < 18 by decide) cm0 kcX12 (mX12_takes 12 (by decide : 12 < bytL.length) v42.2 v58 h58) cwX12_takes cvX12_takes rfl mlX12_166 ⟨by decide, by decide⟩ rfl hl.1 (Nat.le_of_ble_eq_true rfl) ⟨by decide, by decide⟩ dX12_readsStatement_58 rfl (fun H locs hW hS => ?_)
        refine lv_if_eq (tgt := 72) hx0 hb dX12_readsStatement_61 (by decide) (fun c61 => ?_) (fun c61 => ?_)
        · rw [if_pos c61] at h
          refine lv_aload_n hx0 hb dX12_readsStatement_72 rfl (lv_at hl 2 rfl) ?_
          refine w_ldcS C 15 rfl dX12_readsStatement_73 ?_
          obtain ⟨v75, h75, h⟩ := bnd h
          try dsimp only at h
          refine w_callV (L := (LM E b)) (k := 0) (As := [.ref (E.2.2.1 15)]) (rest := []) C hW hS (show 0 < 18 by decide) cm0 kcX12 (mX12_takes 15 (by decide : 15 < bytL.length) v58.2 v75 h75) cwX12_takes cvX12_takes rfl mlX12_166 ⟨by decide, by decide⟩ rfl hl.1 (Nat.le_of_ble_eq_true rfl) ⟨by decide, by decide⟩ dX12_readsStatement_75 rfl (fun H locs hW hS => ?_)
          refine lv_if_eq (tgt := 89) hx0 hb dX12_readsStatement_78 (by decide) (fun c78 => ?_) (fun c78 => ?_)
          · rw [if_pos c78] at h
            refine lv_aload_n hx0 hb dX12_readsStatement_89 rfl (lv_at hl 2 rfl) ?_
            refine lv_iload_n hx0 hb dX12_readsStatement_90 rfl (lv_at hl 0 rfl) ?_
            obtain ⟨v91, h91, h⟩ := bnd h
            try dsimp only at h
            refine w_callV (L := (LM E b)) (k := 0) (As := [.int (v1.2 0 14)]) (rest := []) C hW hS (show 0 < 18 by decide) cm0 kcX12 (mX12_wrongAt (v1.2 0 14)  v75.2 v91 h91) cwX12_wrongAt cvX12_wrongAt rfl mlX12_140 ⟨by decide, by decide⟩ rfl hl.1 (Nat.le_of_ble_eq_true rfl) ⟨by decide, by decide⟩ dX12_readsStatement_91 rfl (fun H locs hW hS => ?_)
            cases h
            exact w_vret C hW hS dX12_readsStatement_94
          · rw [if_neg c78] at h
            refine lv_aload_n hx0 hb dX12_readsStatement_81 rfl (lv_at hl 2 rfl) ?_
            refine lv_iload_n hx0 hb dX12_readsStatement_82 rfl (lv_at hl 0 rfl) ?_
            obtain ⟨v83, h83, h⟩ := bnd h
            try dsimp only at h
            refine w_callV (L := (LM E b)) (k := 0) (As := [.int (v1.2 0 14)]) (rest := []) C hW hS (show 0 < 18 by decide) cm0 kcX12 (mX12_readsLabel (v1.2 0 14)  v75.2 v83 h83) cwX12_readsLabel cvX12_readsLabel rfl mlX12_202 ⟨by decide, by decide⟩ rfl hl.1 (Nat.le_of_ble_eq_true rfl) ⟨by decide, by decide⟩ dX12_readsStatement_83 rfl (fun H locs hW hS => ?_)
            refine lv_goto (tgt := 94) hx0 hb dX12_readsStatement_86 (by decide) ?_
            cases h
            exact w_vret C hW hS dX12_readsStatement_94
        · rw [if_neg c61] at h
          refine lv_aload_n hx0 hb dX12_readsStatement_64 rfl (lv_at hl 2 rfl) ?_
          refine lv_iload_n hx0 hb dX12_readsStatement_65 rfl (lv_at hl 0 rfl) ?_
          obtain ⟨v66, h66, h⟩ := bnd h
          try dsimp only at h
          refine w_callV (L := (LM E b)) (k := 0) (As := [.int (v1.2 0 14)]) (rest := []) C hW hS (show 0 < 18 by decide) cm0 kcX12 (mX12_readsSlip (v1.2 0 14)  v58.2 v66 h66) cwX12_readsSlip cvX12_readsSlip rfl mlX12_197 ⟨by decide, by decide⟩ rfl hl.1 (Nat.le_of_ble_eq_true rfl) ⟨by decide, by decide⟩ dX12_readsStatement_66 rfl (fun H locs hW hS => ?_)
          refine lv_goto (tgt := 94) hx0 hb dX12_readsStatement_69 (by decide) ?_
          cases h
          exact w_vret C hW hS dX12_readsStatement_94
      · rw [if_neg c45] at h
        refine lv_aload_n hx0 hb dX12_readsStatement_48 rfl (lv_at hl 2 rfl) ?_
        obtain ⟨v49, h49, h⟩ := bnd h
        try dsimp only at h
        refine w_callV (L := (LM E b)) (k := 0) (As := []) (rest := []) C hW hS (show 0 < 18 by decide) cm0 kcX12 (mX12_readsMissing   v42.2 v49 h49) cwX12_readsMissing cvX12_readsMissing rfl mlX12_192 ⟨by decide, by decide⟩ rfl hl.1 (Nat.le_of_ble_eq_true rfl) ⟨by decide, by decide⟩ dX12_readsStatement_49 rfl (fun H locs hW hS => ?_)
        refine lv_goto (tgt := 94) hx0 hb dX12_readsStatement_52 (by decide) ?_
        cases h
        exact w_vret C hW hS dX12_readsStatement_94
    · rw [if_neg c28] at h
      refine lv_aload_n hx0 hb dX12_readsStatement_31 rfl (lv_at hl 2 rfl) ?_
      refine lv_iload_n hx0 hb dX12_readsStatement_32 rfl (lv_at hl 0 rfl) ?_
      obtain ⟨v33, h33, h⟩ := bnd h
      try dsimp only at h
      refine w_callV (L := (LM E b)) (k := 0) (As := [.int (v1.2 0 14)]) (rest := []) C hW hS (show 0 < 18 by decide) cm0 kcX12 (mX12_wrongAt (v1.2 0 14)  v13.2 v33 h33) cwX12_wrongAt cvX12_wrongAt rfl mlX12_140 ⟨by decide, by decide⟩ rfl hl.1 (Nat.le_of_ble_eq_true rfl) ⟨by decide, by decide⟩ dX12_readsStatement_33 rfl (fun H locs hW hS => ?_)
      refine lv_goto (tgt := 94) hx0 hb dX12_readsStatement_36 (by decide) ?_
      cases h
      exact w_vret C hW hS dX12_readsStatement_94
  · rw [if_neg c16] at h
    refine lv_aload_n hx0 hb dX12_readsStatement_19 rfl (lv_at hl 2 rfl) ?_
    refine lv_iload_n hx0 hb dX12_readsStatement_20 rfl (lv_at hl 0 rfl) ?_
    obtain ⟨v21, h21, h⟩ := bnd h
    try dsimp only at h
    refine w_callV (L := (LM E b)) (k := 0) (As := [.int (v1.2 0 14)]) (rest := []) C hW hS (show 0 < 18 by decide) cm0 kcX12 (mX12_readsQuire (v1.2 0 14)  v13.2 v21 h21) cwX12_readsQuire cvX12_readsQuire rfl mlX12_187 ⟨by decide, by decide⟩ rfl hl.1 (Nat.le_of_ble_eq_true rfl) ⟨by decide, by decide⟩ dX12_readsStatement_21 rfl (fun H locs hW hS => ?_)
    refine lv_goto (tgt := 94) hx0 hb dX12_readsStatement_24 (by decide) ?_
    cases h
    exact w_vret C hW hS dX12_readsStatement_94
def fX12_readsText_l17 : Nat → Int32 → Mem → Option (Int32 × Mem)
  | 0, _, _ => none
  | n + 1, x1, σ => if (339 : Int32) ≤ x1 then (some (x1, σ)) else (if x1 < 0 ∨ lm 4 ≤ x1.toNatClampNeg then none else fX12_readsText_l17 n (x1 + (1 : Int32)) (up σ 4 x1.toNatClampNeg (0 : Int32)))
set_option maxRecDepth 100000 in
set_option maxHeartbeats 4000000 in
theorem bX12_readsText_l17 {p : Program} {l : Launch} {e : Env} {s : State} {m : MethodId} {args : Array Value} {below : List Frame} {meth : Method} {c : Code} {E : Ev} {b : Nat} (C : Cx p l s m args meth c E cX12_readsText 2 RX12 (some .int)) {Qf : State → Prop} {q : Int32 × Mem} (hx : ∀ H locs ls, Wd E (LM E b) q.2 H → va_S (La (LM E b)) s.heap H locs → lv_has ls 2 [(0, .ref (b + 0)), (1, .int q.1)] → W p l e { frames := 8, cells := 0, slots := 0, locals := 250 } s m args below meth c H locs 0 0 Qf (F0 m 37 ls [])) : ∀ (n : Nat) (x1 : Int32) (σ : Mem), fX12_readsText_l17 n x1 σ = some q → ∀ (H : Heap) (locs : List Loc) (ls : Array Slot), Wd E (LM E b) σ H → va_S (La (LM E b)) s.heap H locs → lv_has ls 2 [(0, .ref (b + 0)), (1, .int x1)] → W p l e { frames := 8, cells := 0, slots := 0, locals := 250 } s m args below meth c H locs 0 0 Qf (F0 m 17 ls []) := by
  have hx0 := C.1
  have hb := C.2.1
  intro n
  induction n with
  | zero => intro x1 σ h; simp [fX12_readsText_l17] at h
  | succ n ih =>
    intro x1 σ h H locs ls hW hS hl
    unfold fX12_readsText_l17 at h
    refine lv_iload_n hx0 hb dX12_readsText_17 rfl (lv_at hl 1 rfl) ?_
    refine lv_sipush (v := (339 : Int32)) hx0 hb dX12_readsText_18 (by decide) ?_
    refine lv_icmp_ge (tgt := 37) hx0 hb dX12_readsText_21 (by decide) (fun c21 => ?_) (fun c21 => ?_)
    · rw [if_pos c21] at h
      cases h
      exact hx _ _ _ hW hS (lv_sub hl [0, 1] rfl)
    · rw [if_neg c21] at h
      refine lv_aload_n hx0 hb dX12_readsText_24 rfl (lv_at hl 0 rfl) ?_
      refine gtX12_6 C hW flX12_23 dX12_readsText_25 ?_
      refine lv_iload_n hx0 hb dX12_readsText_28 rfl (lv_at hl 1 rfl) ?_
      refine lv_iconst (v := (0 : Int32)) hx0 hb dX12_readsText_29 (by decide) ?_
      by_cases z30 : x1 < 0 ∨ lm 4 ≤ x1.toNatClampNeg
      · rw [if_pos z30] at h; cases h
      rw [if_neg z30] at h
      refine saIm (k := 4) C hW hS (by decide) z30 dX12_readsText_30 (fun H locs hW hS => ?_)
      refine lv_iinc (v := x1 + (1 : Int32)) (lv' := [(1, .int (x1 + (1 : Int32))), (0, .ref (b + 0))]) hx0 hb dX12_readsText_31 hl (k := 1) rfl rfl (by decide) rfl (fun ls hl => ?_)
      refine lv_goto (tgt := 17) hx0 hb dX12_readsText_34 (by decide) ?_
      exact ih (x1 + (1 : Int32)) (up σ 4 x1.toNatClampNeg (0 : Int32)) h _ _ _ hW hS (lv_sub hl [1, 0] rfl)
def fX12_readsText_l42 : Nat → Mem → Option (Mem)
  | 0, _ => none
  | n + 1, σ => (fX12_isFine σ).bind fun v43 => if v43 = 0 then (some σ) else ((fX12_look σ).bind fun v50 => if v50.1 = (59 : Int32) then ((fX12_readsStatement (0 : Int32) (up v50.2 0 13 ((v50.2 0 13) + (1 : Int32)))).bind fun v70 => fX12_readsText_l42 n  v70) else (some v50.2))
set_option maxRecDepth 100000 in
set_option maxHeartbeats 4000000 in
theorem bX12_readsText_l42 {p : Program} {l : Launch} {e : Env} {s : State} {m : MethodId} {args : Array Value} {below : List Frame} {meth : Method} {c : Code} {E : Ev} {b : Nat} (C : Cx p l s m args meth c E cX12_readsText 2 RX12 (some .int)) {Qf : State → Prop} {q : Mem} (hx : ∀ H locs ls, Wd E (LM E b) q H → va_S (La (LM E b)) s.heap H locs → lv_has ls 2 [(0, .ref (b + 0))] → W p l e { frames := 8, cells := 0, slots := 0, locals := 250 } s m args below meth c H locs 0 0 Qf (F0 m 76 ls [])) : ∀ (n : Nat) (σ : Mem), fX12_readsText_l42 n σ = some q → ∀ (H : Heap) (locs : List Loc) (ls : Array Slot), Wd E (LM E b) σ H → va_S (La (LM E b)) s.heap H locs → lv_has ls 2 [(0, .ref (b + 0))] → W p l e { frames := 8, cells := 0, slots := 0, locals := 250 } s m args below meth c H locs 0 0 Qf (F0 m 42 ls []) := by
  have hx0 := C.1
  have hb := C.2.1
  intro n
  induction n with
  | zero => intro σ h; simp [fX12_readsText_l42] at h
  | succ n ih =>
    intro σ h H locs ls hW hS hl
    unfold fX12_readsText_l42 at h
    refine lv_aload_n hx0 hb dX12_readsText_42 rfl (lv_at hl 0 rfl) ?_
    obtain ⟨v43, h43, h⟩ := bnd h
    try dsimp only at h
    refine w_callV (L := (LM E b)) (k := 0) (As := []) (rest := []) C hW hS (show 0 < 18 by decide) cm0 kcX12 (mX12_isFine   σ v43 h43) cwX12_isFine cvX12_isFine rfl mlX12_118 ⟨by decide, by decide⟩ rfl hl.1 (Nat.le_of_ble_eq_true rfl) ⟨by decide, by decide⟩ dX12_readsText_43 rfl (fun H locs hW hS => ?_)
    refine lv_if_eq (tgt := 76) hx0 hb dX12_readsText_46 (by decide) (fun c46 => ?_) (fun c46 => ?_)
    · rw [if_pos c46] at h
      cases h
      exact hx _ _ _ hW hS (lv_sub hl [0] rfl)
    · rw [if_neg c46] at h
      refine lv_aload_n hx0 hb dX12_readsText_49 rfl (lv_at hl 0 rfl) ?_
      obtain ⟨v50, h50, h⟩ := bnd h
      try dsimp only at h
      refine w_callV (L := (LM E b)) (k := 0) (As := []) (rest := []) C hW hS (show 0 < 18 by decide) cm0 kcX12 (mX12_look   σ v50 h50) cwX12_look cvX12_look rfl mlX12_122 ⟨by decide, by decide⟩ rfl hl.1 (Nat.le_of_ble_eq_true rfl) ⟨by decide, by decide⟩ dX12_readsText_50 rfl (fun H locs hW hS => ?_)
      refine lv_bipush (v := (59 : Int32)) hx0 hb dX12_readsText_53 (by decide) ?_
      refine lv_icmp_ne (tgt := 76) hx0 hb dX12_readsText_55 (by decide) (fun c55 => ?_) (fun c55 => ?_)
      · rw [if_neg c55] at h
        cases h
        exact hx _ _ _ hW hS (lv_sub hl [0] rfl)
      · rw [if_pos c55] at h
        refine lv_aload_n hx0 hb dX12_readsText_58 rfl (lv_at hl 0 rfl) ?_
        refine lv_dup hx0 hb dX12_readsText_59 rfl ?_
        refine gtX12_13 C hW flX12_105 dX12_readsText_60 ?_
        refine lv_iconst (v := (1 : Int32)) hx0 hb dX12_readsText_63 (by decide) ?_
        refine lv_iadd hx0 hb dX12_readsText_64 ?_
        refine ptX12_13 C hW hS flX12_105 dX12_readsText_65 (fun H locs hW hS => ?_)
        refine lv_aload_n hx0 hb dX12_readsText_68 rfl (lv_at hl 0 rfl) ?_
        refine lv_iconst (v := (0 : Int32)) hx0 hb dX12_readsText_69 (by decide) ?_
        obtain ⟨v70, h70, h⟩ := bnd h
        try dsimp only at h
        refine w_callV (L := (LM E b)) (k := 0) (As := [.int (0 : Int32)]) (rest := []) C hW hS (show 0 < 18 by decide) cm0 kcX12 (mX12_readsStatement (0 : Int32)  (up v50.2 0 13 ((v50.2 0 13) + (1 : Int32))) v70 h70) cwX12_readsStatement cvX12_readsStatement rfl mlX12_205 ⟨by decide, by decide⟩ rfl hl.1 (Nat.le_of_ble_eq_true rfl) ⟨by decide, by decide⟩ dX12_readsText_70 rfl (fun H locs hW hS => ?_)
        refine lv_goto (tgt := 42) hx0 hb dX12_readsText_73 (by decide) ?_
        exact ih  v70 h _ _ _ hW hS (lv_sub hl [0] rfl)
def fX12_readsText_j76 (σ : Mem) : Option ((Int32 × Mem)) :=
  (fX12_isFine σ).bind fun v77 => if v77 = 0 then (if 0 ≤ (σ 0 15) then (some (σ 0 15, σ)) else (some ((-1 : Int32), σ))) else ((fX12_look σ).bind fun v84 => if v84.1 < 0 then (if 0 ≤ (v84.2 0 15) then (some (v84.2 0 15, v84.2)) else (some ((-1 : Int32), v84.2))) else ((fX12_wrongAt (v84.2 0 14) v84.2).bind fun v95 => if 0 ≤ (v95 0 15) then (some (v95 0 15, v95)) else (some ((-1 : Int32), v95))))
set_option maxRecDepth 100000 in
set_option maxHeartbeats 4000000 in
theorem bX12_readsText_j76 {p : Program} {l : Launch} {e : Env} {s : State} {m : MethodId} {args : Array Value} {below : List Frame} {meth : Method} {c : Code} {E : Ev} {b : Nat} (C : Cx p l s m args meth c E cX12_readsText 2 RX12 (some .int)) {r : (Int32 × Mem)} (σ : Mem) (h : fX12_readsText_j76 σ = some r) (H : Heap) (locs : List Loc) (ls : Array Slot) (hW : Wd E (LM E b) σ H) (hS : va_S (La (LM E b)) s.heap H locs) (hl : lv_has ls 2 [(0, .ref (b + 0))]) : W p l e { frames := 8, cells := 0, slots := 0, locals := 250 } s m args below meth c H locs 0 0 (MQ below (Qz E (LM E b) (some (.int r.1)) r.2) args s 0 0 (La (LM E b))) (F0 m 76 ls []) := by
  have hx0 := C.1
  have hb := C.2.1
  unfold fX12_readsText_j76 at h
  refine lv_aload_n hx0 hb dX12_readsText_76 rfl (lv_at hl 0 rfl) ?_
  obtain ⟨v77, h77, h⟩ := bnd h
  try dsimp only at h
  refine w_callV (L := (LM E b)) (k := 0) (As := []) (rest := []) C hW hS (show 0 < 18 by decide) cm0 kcX12 (mX12_isFine   σ v77 h77) cwX12_isFine cvX12_isFine rfl mlX12_118 ⟨by decide, by decide⟩ rfl hl.1 (Nat.le_of_ble_eq_true rfl) ⟨by decide, by decide⟩ dX12_readsText_77 rfl (fun H locs hW hS => ?_)
  refine lv_if_eq (tgt := 98) hx0 hb dX12_readsText_80 (by decide) (fun c80 => ?_) (fun c80 => ?_)
  · rw [if_pos c80] at h
    refine lv_aload_n hx0 hb dX12_readsText_98 rfl (lv_at hl 0 rfl) ?_
    refine gtX12_15 C hW flX12_115 dX12_readsText_99 ?_
    refine lv_if_ge (tgt := 109) hx0 hb dX12_readsText_102 (by decide) (fun c102 => ?_) (fun c102 => ?_)
    · rw [if_pos c102] at h
      refine lv_aload_n hx0 hb dX12_readsText_109 rfl (lv_at hl 0 rfl) ?_
      refine gtX12_15 C hW flX12_115 dX12_readsText_110 ?_
      cases h
      exact w_iret C hW hS dX12_readsText_113
    · rw [if_neg c102] at h
      refine lv_iconst (v := (-1 : Int32)) hx0 hb dX12_readsText_105 (by decide) ?_
      refine lv_goto (tgt := 113) hx0 hb dX12_readsText_106 (by decide) ?_
      cases h
      exact w_iret C hW hS dX12_readsText_113
  · rw [if_neg c80] at h
    refine lv_aload_n hx0 hb dX12_readsText_83 rfl (lv_at hl 0 rfl) ?_
    obtain ⟨v84, h84, h⟩ := bnd h
    try dsimp only at h
    refine w_callV (L := (LM E b)) (k := 0) (As := []) (rest := []) C hW hS (show 0 < 18 by decide) cm0 kcX12 (mX12_look   σ v84 h84) cwX12_look cvX12_look rfl mlX12_122 ⟨by decide, by decide⟩ rfl hl.1 (Nat.le_of_ble_eq_true rfl) ⟨by decide, by decide⟩ dX12_readsText_84 rfl (fun H locs hW hS => ?_)
    refine lv_if_lt (tgt := 98) hx0 hb dX12_readsText_87 (by decide) (fun c87 => ?_) (fun c87 => ?_)
    · rw [if_pos c87] at h
      refine lv_aload_n hx0 hb dX12_readsText_98 rfl (lv_at hl 0 rfl) ?_
      refine gtX12_15 C hW flX12_115 dX12_readsText_99 ?_
      refine lv_if_ge (tgt := 109) hx0 hb dX12_readsText_102 (by decide) (fun c102 => ?_) (fun c102 => ?_)
      · rw [if_pos c102] at h
        refine lv_aload_n hx0 hb dX12_readsText_109 rfl (lv_at hl 0 rfl) ?_
        refine gtX12_15 C hW flX12_115 dX12_readsText_110 ?_
        cases h
        exact w_iret C hW hS dX12_readsText_113
      · rw [if_neg c102] at h
        refine lv_iconst (v := (-1 : Int32)) hx0 hb dX12_readsText_105 (by decide) ?_
        refine lv_goto (tgt := 113) hx0 hb dX12_readsText_106 (by decide) ?_
        cases h
        exact w_iret C hW hS dX12_readsText_113
    · rw [if_neg c87] at h
      refine lv_aload_n hx0 hb dX12_readsText_90 rfl (lv_at hl 0 rfl) ?_
      refine lv_aload_n hx0 hb dX12_readsText_91 rfl (lv_at hl 0 rfl) ?_
      refine gtX12_14 C hW flX12_112 dX12_readsText_92 ?_
      obtain ⟨v95, h95, h⟩ := bnd h
      try dsimp only at h
      refine w_callV (L := (LM E b)) (k := 0) (As := [.int (v84.2 0 14)]) (rest := []) C hW hS (show 0 < 18 by decide) cm0 kcX12 (mX12_wrongAt (v84.2 0 14)  v84.2 v95 h95) cwX12_wrongAt cvX12_wrongAt rfl mlX12_140 ⟨by decide, by decide⟩ rfl hl.1 (Nat.le_of_ble_eq_true rfl) ⟨by decide, by decide⟩ dX12_readsText_95 rfl (fun H locs hW hS => ?_)
      refine lv_aload_n hx0 hb dX12_readsText_98 rfl (lv_at hl 0 rfl) ?_
      refine gtX12_15 C hW flX12_115 dX12_readsText_99 ?_
      refine lv_if_ge (tgt := 109) hx0 hb dX12_readsText_102 (by decide) (fun c102 => ?_) (fun c102 => ?_)
      · rw [if_pos c102] at h
        refine lv_aload_n hx0 hb dX12_readsText_109 rfl (lv_at hl 0 rfl) ?_
        refine gtX12_15 C hW flX12_115 dX12_readsText_110 ?_
        cases h
        exact w_iret C hW hS dX12_readsText_113
      · rw [if_neg c102] at h
        refine lv_iconst (v := (-1 : Int32)) hx0 hb dX12_readsText_105 (by decide) ?_
        refine lv_goto (tgt := 113) hx0 hb dX12_readsText_106 (by decide) ?_
        cases h
        exact w_iret C hW hS dX12_readsText_113
def fX12_readsText (σ : Mem) : Option (Int32 × Mem) :=
  (fX12_readsText_l17 FU (0 : Int32) (up (up (up σ 0 13 (0 : Int32)) 0 15 (-1 : Int32)) 0 4 (0 : Int32))).bind fun q17 => (fX12_readsStatement (1 : Int32) q17.2).bind fun v39 => (fX12_readsText_l42 FU v39).bind fun q42 => fX12_readsText_j76 q42
set_option maxRecDepth 100000 in
set_option maxHeartbeats 4000000 in
theorem mX12_readsText {l : Launch} {E : Ev} {b : Nat} (σ : Mem) (r : (Int32 × Mem)) (h : fX12_readsText σ = some r) : Met l yX12_readsText (tw yX12_readsText cX12_readsText 2 (some .int)) { frames := 8, cells := 0, slots := 0, locals := 250 } (va_Pc [.ref (b + 0)] (Pr l E (LM E b) σ)) (Qz E (LM E b) (some (.int r.1)) r.2) 0 0 (La (LM E b)) := by
  refine ct_of (by decide) (Nat.le_of_ble_eq_true rfl) ?_
  intro p e s m below meth c C hW hS ls hl
  have hx0 := C.1
  have hb := C.2.1
  have hl : lv_has ls 2 [(0, .ref (b + 0))] := hl
  unfold fX12_readsText at h
  refine lv_aload_n hx0 hb dX12_readsText_0 rfl (lv_at hl 0 rfl) ?_
  refine lv_iconst (v := (0 : Int32)) hx0 hb dX12_readsText_1 (by decide) ?_
  refine ptX12_13 C hW hS flX12_105 dX12_readsText_2 (fun H locs hW hS => ?_)
  refine lv_aload_n hx0 hb dX12_readsText_5 rfl (lv_at hl 0 rfl) ?_
  refine lv_iconst (v := (-1 : Int32)) hx0 hb dX12_readsText_6 (by decide) ?_
  refine ptX12_15 C hW hS flX12_115 dX12_readsText_7 (fun H locs hW hS => ?_)
  refine lv_aload_n hx0 hb dX12_readsText_10 rfl (lv_at hl 0 rfl) ?_
  refine lv_iconst (v := (0 : Int32)) hx0 hb dX12_readsText_11 (by decide) ?_
  refine ptX12_4 C hW hS flX12_67 dX12_readsText_12 (fun H locs hW hS => ?_)
  refine lv_iconst (v := (0 : Int32)) hx0 hb dX12_readsText_15 (by decide) ?_
  refine lv_istore_n (lv' := [(1, .int (0 : Int32)), (0, .ref (b + 0))]) hx0 hb dX12_readsText_16 rfl hl (by decide) rfl (fun ls hl => ?_)
  obtain ⟨q17, h17, h⟩ := bnd h
  try dsimp only at h
  refine bX12_readsText_l17 C   (q := q17) ?_ FU (0 : Int32) (up (up (up σ 0 13 (0 : Int32)) 0 15 (-1 : Int32)) 0 4 (0 : Int32)) h17 _ _ _ hW hS (lv_sub hl [1, 0] rfl)
  intro H locs ls hW hS hl
  refine lv_aload_n hx0 hb dX12_readsText_37 rfl (lv_at hl 0 rfl) ?_
  refine lv_iconst (v := (1 : Int32)) hx0 hb dX12_readsText_38 (by decide) ?_
  obtain ⟨v39, h39, h⟩ := bnd h
  try dsimp only at h
  refine w_callV (L := (LM E b)) (k := 0) (As := [.int (1 : Int32)]) (rest := []) C hW hS (show 0 < 18 by decide) cm0 kcX12 (mX12_readsStatement (1 : Int32)  q17.2 v39 h39) cwX12_readsStatement cvX12_readsStatement rfl mlX12_205 ⟨by decide, by decide⟩ rfl hl.1 (Nat.le_of_ble_eq_true rfl) ⟨by decide, by decide⟩ dX12_readsText_39 rfl (fun H locs hW hS => ?_)
  obtain ⟨q42, h42, h⟩ := bnd h
  try dsimp only at h
  refine bX12_readsText_l42 C   (q := q42) ?_ FU  v39 h42 _ _ _ hW hS (lv_sub hl [0] rfl)
  intro H locs ls hW hS hl
  exact bX12_readsText_j76 C q42 h _ _ _ hW hS (lv_sub hl [0] rfl)
