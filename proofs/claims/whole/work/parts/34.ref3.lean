/-! the reference, by program out of the bytecode -/
def fX12_writesRoman_l15 (w2 : Nat) (x4 : Int32) : Nat → Int32 → Mem → Option (Int32 × Mem)
  | 0, _, _ => none
  | n + 1, x3, σ => if x4 < 0 ∨ lm 11 ≤ x4.toNatClampNeg then none else if x3 < (σ 11 x4.toNatClampNeg) then (some (x3, σ)) else (if ((2 : Int32) * x4) < 0 ∨ (bytL.getD w2 []).length ≤ ((2 : Int32) * x4).toNatClampNeg then none else (fX12_writes ((bytL.getD w2 []).getD ((2 : Int32) * x4).toNatClampNeg 0) σ).bind fun v35 => if (((2 : Int32) * x4) + (1 : Int32)) < 0 ∨ (bytL.getD w2 []).length ≤ (((2 : Int32) * x4) + (1 : Int32)).toNatClampNeg then none else if ((bytL.getD w2 []).getD (((2 : Int32) * x4) + (1 : Int32)).toNatClampNeg 0) = (32 : Int32) then (if x4 < 0 ∨ lm 11 ≤ x4.toNatClampNeg then none else fX12_writesRoman_l15 w2 x4 n (x3 - (v35 11 x4.toNatClampNeg)) v35) else (if (((2 : Int32) * x4) + (1 : Int32)) < 0 ∨ (bytL.getD w2 []).length ≤ (((2 : Int32) * x4) + (1 : Int32)).toNatClampNeg then none else (fX12_writes ((bytL.getD w2 []).getD (((2 : Int32) * x4) + (1 : Int32)).toNatClampNeg 0) v35).bind fun v64 => if x4 < 0 ∨ lm 11 ≤ x4.toNatClampNeg then none else fX12_writesRoman_l15 w2 x4 n (x3 - (v64 11 x4.toNatClampNeg)) v64))
set_option maxRecDepth 100000 in
set_option maxHeartbeats 4000000 in
theorem bX12_writesRoman_l15 {p : Program} {l : Launch} {e : Env} {s : State} {m : MethodId} {args : Array Value} {below : List Frame} {meth : Method} {c : Code} {E : Ev} {b : Nat} (C : Cx p l s m args meth c E cX12_writesRoman 5 RX12 none) (w2 : Nat) (x4 : Int32) (hw2 : w2 < bytL.length) {Qf : State → Prop} {q : Int32 × Mem} (hx : ∀ H locs ls, Wd E (LM E b) q.2 H → va_S (La (LM E b)) s.heap H locs → lv_has ls 5 [(0, .ref (b + 0)), (2, .ref (E.2.2.1 w2)), (3, .int q.1), (4, .int x4)] → W p l e { frames := 4, cells := 0, slots := 0, locals := 160 } s m args below meth c H locs 0 0 Qf (F0 m 80 ls [])) : ∀ (n : Nat) (x3 : Int32) (σ : Mem), fX12_writesRoman_l15 w2 x4 n x3 σ = some q → ∀ (H : Heap) (locs : List Loc) (ls : Array Slot), Wd E (LM E b) σ H → va_S (La (LM E b)) s.heap H locs → lv_has ls 5 [(0, .ref (b + 0)), (2, .ref (E.2.2.1 w2)), (3, .int x3), (4, .int x4)] → W p l e { frames := 4, cells := 0, slots := 0, locals := 160 } s m args below meth c H locs 0 0 Qf (F0 m 15 ls []) := by
  have hx0 := C.1
  have hb := C.2.1
  intro n
  induction n with
  | zero => intro x3 σ h; simp [fX12_writesRoman_l15] at h
  | succ n ih =>
    intro x3 σ h H locs ls hW hS hl
    unfold fX12_writesRoman_l15 at h
    refine lv_iload_n hx0 hb dX12_writesRoman_15 rfl (lv_at hl 2 rfl) ?_
    refine lv_aload_n hx0 hb dX12_writesRoman_16 rfl (lv_at hl 0 rfl) ?_
    refine gtX12_22 C hW flX12_45 dX12_writesRoman_17 ?_
    refine lv_iload hx0 hb dX12_writesRoman_20 (lv_at hl 3 rfl) ?_
    by_cases z22 : x4 < 0 ∨ lm 11 ≤ x4.toNatClampNeg
    · rw [if_pos z22] at h; cases h
    rw [if_neg z22] at h
    refine ldIm (k := 11) C hW (by decide) z22 dX12_writesRoman_22 ?_
    refine lv_icmp_lt (tgt := 80) hx0 hb dX12_writesRoman_23 (by decide) (fun c23 => ?_) (fun c23 => ?_)
    · rw [if_pos c23] at h
      cases h
      exact hx _ _ _ hW hS (lv_sub hl [0, 1, 2, 3] rfl)
    · rw [if_neg c23] at h
      refine lv_aload_n hx0 hb dX12_writesRoman_26 rfl (lv_at hl 0 rfl) ?_
      refine lv_aload_n hx0 hb dX12_writesRoman_27 rfl (lv_at hl 1 rfl) ?_
      refine lv_iconst (v := (2 : Int32)) hx0 hb dX12_writesRoman_28 (by decide) ?_
      refine lv_iload hx0 hb dX12_writesRoman_29 (lv_at hl 3 rfl) ?_
      refine lv_imul hx0 hb dX12_writesRoman_31 ?_
      by_cases z32 : ((2 : Int32) * x4) < 0 ∨ (bytL.getD w2 []).length ≤ ((2 : Int32) * x4).toNatClampNeg
      · rw [if_pos z32] at h; cases h
      rw [if_neg z32] at h
      refine w_schr (i := w2) (rest := [.ref (b + 0)]) C hW hS hw2 z32 mlX12_133 ⟨by decide, by decide⟩ hl.1 (Nat.le_of_ble_eq_true rfl) ⟨by decide, by decide⟩ dX12_writesRoman_32 (fun H locs hW hS => ?_)
      obtain ⟨v35, h35, h⟩ := bnd h
      try dsimp only at h
      refine w_callV (L := (LM E b)) (k := 0) (As := [.int ((bytL.getD w2 []).getD ((2 : Int32) * x4).toNatClampNeg 0)]) (rest := []) C hW hS (show 0 < 18 by decide) cm0 kcX12 (mX12_writes ((bytL.getD w2 []).getD ((2 : Int32) * x4).toNatClampNeg 0)  σ v35 h35) cwX12_writes cvX12_writes rfl mlX12_245 ⟨by decide, by decide⟩ rfl hl.1 (Nat.le_of_ble_eq_true rfl) ⟨by decide, by decide⟩ dX12_writesRoman_35 rfl (fun H locs hW hS => ?_)
      refine lv_aload_n hx0 hb dX12_writesRoman_38 rfl (lv_at hl 1 rfl) ?_
      refine lv_iconst (v := (2 : Int32)) hx0 hb dX12_writesRoman_39 (by decide) ?_
      refine lv_iload hx0 hb dX12_writesRoman_40 (lv_at hl 3 rfl) ?_
      refine lv_imul hx0 hb dX12_writesRoman_42 ?_
      refine lv_iconst (v := (1 : Int32)) hx0 hb dX12_writesRoman_43 (by decide) ?_
      refine lv_iadd hx0 hb dX12_writesRoman_44 ?_
      by_cases z45 : (((2 : Int32) * x4) + (1 : Int32)) < 0 ∨ (bytL.getD w2 []).length ≤ (((2 : Int32) * x4) + (1 : Int32)).toNatClampNeg
      · rw [if_pos z45] at h; cases h
      rw [if_neg z45] at h
      refine w_schr (i := w2) (rest := []) C hW hS hw2 z45 mlX12_133 ⟨by decide, by decide⟩ hl.1 (Nat.le_of_ble_eq_true rfl) ⟨by decide, by decide⟩ dX12_writesRoman_45 (fun H locs hW hS => ?_)
      refine lv_bipush (v := (32 : Int32)) hx0 hb dX12_writesRoman_48 (by decide) ?_
      refine lv_icmp_eq (tgt := 67) hx0 hb dX12_writesRoman_50 (by decide) (fun c50 => ?_) (fun c50 => ?_)
      · rw [if_pos c50] at h
        refine lv_iload_n hx0 hb dX12_writesRoman_67 rfl (lv_at hl 2 rfl) ?_
        refine lv_aload_n hx0 hb dX12_writesRoman_68 rfl (lv_at hl 0 rfl) ?_
        refine gtX12_22 C hW flX12_45 dX12_writesRoman_69 ?_
        refine lv_iload hx0 hb dX12_writesRoman_72 (lv_at hl 3 rfl) ?_
        by_cases z74 : x4 < 0 ∨ lm 11 ≤ x4.toNatClampNeg
        · rw [if_pos z74] at h; cases h
        rw [if_neg z74] at h
        refine ldIm (k := 11) C hW (by decide) z74 dX12_writesRoman_74 ?_
        refine lv_isub hx0 hb dX12_writesRoman_75 ?_
        refine lv_istore_n (lv' := [(3, .int (x3 - (v35 11 x4.toNatClampNeg))), (0, .ref (b + 0)), (2, .ref (E.2.2.1 w2)), (4, .int x4)]) hx0 hb dX12_writesRoman_76 rfl hl (by decide) rfl (fun ls hl => ?_)
        refine lv_goto (tgt := 15) hx0 hb dX12_writesRoman_77 (by decide) ?_
        exact ih (x3 - (v35 11 x4.toNatClampNeg)) v35 h _ _ _ hW hS (lv_sub hl [1, 2, 0, 3] rfl)
      · rw [if_neg c50] at h
        refine lv_aload_n hx0 hb dX12_writesRoman_53 rfl (lv_at hl 0 rfl) ?_
        refine lv_aload_n hx0 hb dX12_writesRoman_54 rfl (lv_at hl 1 rfl) ?_
        refine lv_iconst (v := (2 : Int32)) hx0 hb dX12_writesRoman_55 (by decide) ?_
        refine lv_iload hx0 hb dX12_writesRoman_56 (lv_at hl 3 rfl) ?_
        refine lv_imul hx0 hb dX12_writesRoman_58 ?_
        refine lv_iconst (v := (1 : Int32)) hx0 hb dX12_writesRoman_59 (by decide) ?_
        refine lv_iadd hx0 hb dX12_writesRoman_60 ?_
        by_cases z61 : (((2 : Int32) * x4) + (1 : Int32)) < 0 ∨ (bytL.getD w2 []).length ≤ (((2 : Int32) * x4) + (1 : Int32)).toNatClampNeg
        · rw [if_pos z61] at h; cases h
        rw [if_neg z61] at h
        refine w_schr (i := w2) (rest := [.ref (b + 0)]) C hW hS hw2 z61 mlX12_133 ⟨by decide, by decide⟩ hl.1 (Nat.le_of_ble_eq_true rfl) ⟨by decide, by decide⟩ dX12_writesRoman_61 (fun H locs hW hS => ?_)
        obtain ⟨v64, h64, h⟩ := bnd h
        try dsimp only at h
        refine w_callV (L := (LM E b)) (k := 0) (As := [.int ((bytL.getD w2 []).getD (((2 : Int32) * x4) + (1 : Int32)).toNatClampNeg 0)]) (rest := []) C hW hS (show 0 < 18 by decide) cm0 kcX12 (mX12_writes ((bytL.getD w2 []).getD (((2 : Int32) * x4) + (1 : Int32)).toNatClampNeg 0)  v35 v64 h64) cwX12_writes cvX12_writes rfl mlX12_245 ⟨by decide, by decide⟩ rfl hl.1 (Nat.le_of_ble_eq_true rfl) ⟨by decide, by decide⟩ dX12_writesRoman_64 rfl (fun H locs hW hS => ?_)
        refine lv_iload_n hx0 hb dX12_writesRoman_67 rfl (lv_at hl 2 rfl) ?_
        refine lv_aload_n hx0 hb dX12_writesRoman_68 rfl (lv_at hl 0 rfl) ?_
        refine gtX12_22 C hW flX12_45 dX12_writesRoman_69 ?_
        refine lv_iload hx0 hb dX12_writesRoman_72 (lv_at hl 3 rfl) ?_
        by_cases z74 : x4 < 0 ∨ lm 11 ≤ x4.toNatClampNeg
        · rw [if_pos z74] at h; cases h
        rw [if_neg z74] at h
        refine ldIm (k := 11) C hW (by decide) z74 dX12_writesRoman_74 ?_
        refine lv_isub hx0 hb dX12_writesRoman_75 ?_
        refine lv_istore_n (lv' := [(3, .int (x3 - (v64 11 x4.toNatClampNeg))), (0, .ref (b + 0)), (2, .ref (E.2.2.1 w2)), (4, .int x4)]) hx0 hb dX12_writesRoman_76 rfl hl (by decide) rfl (fun ls hl => ?_)
        refine lv_goto (tgt := 15) hx0 hb dX12_writesRoman_77 (by decide) ?_
        exact ih (x3 - (v64 11 x4.toNatClampNeg)) v64 h _ _ _ hW hS (lv_sub hl [1, 2, 0, 3] rfl)
def fX12_writesRoman_l8 (w2 : Nat) : Nat → Int32 → Int32 → Mem → Option (Int32 × Int32 × Mem)
  | 0, _, _, _ => none
  | n + 1, x3, x4, σ => if (13 : Int32) ≤ x4 then (some (x3, x4, σ)) else ((fX12_writesRoman_l15 w2 x4 FU x3 σ).bind fun q15 => fX12_writesRoman_l8 w2 n q15.1 (x4 + (1 : Int32)) q15.2)
set_option maxRecDepth 100000 in
set_option maxHeartbeats 4000000 in
theorem bX12_writesRoman_l8 {p : Program} {l : Launch} {e : Env} {s : State} {m : MethodId} {args : Array Value} {below : List Frame} {meth : Method} {c : Code} {E : Ev} {b : Nat} (C : Cx p l s m args meth c E cX12_writesRoman 5 RX12 none) (w2 : Nat) (hw2 : w2 < bytL.length) {Qf : State → Prop} {q : Int32 × Int32 × Mem} (hx : ∀ H locs ls, Wd E (LM E b) q.2.2 H → va_S (La (LM E b)) s.heap H locs → lv_has ls 5 [(0, .ref (b + 0)), (2, .ref (E.2.2.1 w2)), (3, .int q.1), (4, .int q.2.1)] → W p l e { frames := 4, cells := 0, slots := 0, locals := 160 } s m args below meth c H locs 0 0 Qf (F0 m 86 ls [])) : ∀ (n : Nat) (x3 : Int32) (x4 : Int32) (σ : Mem), fX12_writesRoman_l8 w2 n x3 x4 σ = some q → ∀ (H : Heap) (locs : List Loc) (ls : Array Slot), Wd E (LM E b) σ H → va_S (La (LM E b)) s.heap H locs → lv_has ls 5 [(0, .ref (b + 0)), (2, .ref (E.2.2.1 w2)), (3, .int x3), (4, .int x4)] → W p l e { frames := 4, cells := 0, slots := 0, locals := 160 } s m args below meth c H locs 0 0 Qf (F0 m 8 ls []) := by
  have hx0 := C.1
  have hb := C.2.1
  intro n
  induction n with
  | zero => intro x3 x4 σ h; simp [fX12_writesRoman_l8] at h
  | succ n ih =>
    intro x3 x4 σ h H locs ls hW hS hl
    unfold fX12_writesRoman_l8 at h
    refine lv_iload hx0 hb dX12_writesRoman_8 (lv_at hl 3 rfl) ?_
    refine lv_bipush (v := (13 : Int32)) hx0 hb dX12_writesRoman_10 (by decide) ?_
    refine lv_icmp_ge (tgt := 86) hx0 hb dX12_writesRoman_12 (by decide) (fun c12 => ?_) (fun c12 => ?_)
    · rw [if_pos c12] at h
      cases h
      exact hx _ _ _ hW hS (lv_sub hl [0, 1, 2, 3] rfl)
    · rw [if_neg c12] at h
      obtain ⟨q15, h15, h⟩ := bnd h
      try dsimp only at h
      refine bX12_writesRoman_l15 C w2 x4 hw2 (q := q15) ?_ FU x3 σ h15 _ _ _ hW hS (lv_sub hl [0, 1, 2, 3] rfl)
      intro H locs ls hW hS hl
      refine lv_iinc (v := x4 + (1 : Int32)) (lv' := [(4, .int (x4 + (1 : Int32))), (0, .ref (b + 0)), (2, .ref (E.2.2.1 w2)), (3, .int q15.1)]) hx0 hb dX12_writesRoman_80 hl (k := 3) rfl rfl (by decide) rfl (fun ls hl => ?_)
      refine lv_goto (tgt := 8) hx0 hb dX12_writesRoman_83 (by decide) ?_
      exact ih q15.1 (x4 + (1 : Int32)) q15.2 h _ _ _ hW hS (lv_sub hl [1, 2, 3, 0] rfl)
def fX12_writesRoman (x1 : Int32) (σ : Mem) : Option Mem :=
  (fX12_writesRoman_l8 20 FU x1 (0 : Int32) σ).bind fun q8 => some q8.2.2
set_option maxRecDepth 100000 in
set_option maxHeartbeats 4000000 in
theorem mX12_writesRoman {l : Launch} {E : Ev} {b : Nat} (x1 : Int32) (σ : Mem) (r : Mem) (h : fX12_writesRoman x1 σ = some r) : Met l yX12_writesRoman (tw yX12_writesRoman cX12_writesRoman 5 none) { frames := 4, cells := 0, slots := 0, locals := 160 } (va_Pc [.ref (b + 0), .int x1] (Pr l E (LM E b) σ)) (Qz E (LM E b) none r) 0 0 (La (LM E b)) := by
  refine ct_of (by decide) (Nat.le_of_ble_eq_true rfl) ?_
  intro p e s m below meth c C hW hS ls hl
  have hx0 := C.1
  have hb := C.2.1
  have hl : lv_has ls 5 [(0, .ref (b + 0)), (1, .int x1)] := hl
  unfold fX12_writesRoman at h
  refine w_ldcS C 20 rfl dX12_writesRoman_0 ?_
  refine lv_astore_n (lv' := [(2, .ref (E.2.2.1 20)), (0, .ref (b + 0)), (1, .int x1)]) hx0 hb dX12_writesRoman_2 rfl hl (by decide) rfl (fun ls hl => ?_)
  refine lv_iload_n hx0 hb dX12_writesRoman_3 rfl (lv_at hl 2 rfl) ?_
  refine lv_istore_n (lv' := [(3, .int x1), (2, .ref (E.2.2.1 20)), (0, .ref (b + 0)), (1, .int x1)]) hx0 hb dX12_writesRoman_4 rfl hl (by decide) rfl (fun ls hl => ?_)
  refine lv_iconst (v := (0 : Int32)) hx0 hb dX12_writesRoman_5 (by decide) ?_
  refine lv_istore (lv' := [(4, .int (0 : Int32)), (3, .int x1), (2, .ref (E.2.2.1 20)), (0, .ref (b + 0)), (1, .int x1)]) hx0 hb dX12_writesRoman_6 hl (by decide) rfl (fun ls hl => ?_)
  obtain ⟨q8, h8, h⟩ := bnd h
  try dsimp only at h
  refine bX12_writesRoman_l8 C 20 (by decide : 20 < bytL.length) (q := q8) ?_ FU x1 (0 : Int32) σ h8 _ _ _ hW hS (lv_sub hl [3, 2, 1, 0] rfl)
  intro H locs ls hW hS hl
  cases h
  exact w_vret C hW hS dX12_writesRoman_86
def fX12_rangeOf_l9 (x1 : Int32) : Nat → Int32 → Mem → Option (Int32 ⊕ (Int32))
  | 0, _, _ => none
  | n + 1, x2, σ => if x2 < 0 then (some (.inr x2)) else (if ((41 : Int32) + ((4 : Int32) * x2)) < 0 ∨ lm 3 ≤ ((41 : Int32) + ((4 : Int32) * x2)).toNatClampNeg then none else if (((41 : Int32) + ((4 : Int32) * x2)) + (1 : Int32)) < 0 ∨ lm 3 ≤ (((41 : Int32) + ((4 : Int32) * x2)) + (1 : Int32)).toNatClampNeg then none else (fX12_isIn x1.toInt64 ((σ 3 ((41 : Int32) + ((4 : Int32) * x2)).toNatClampNeg).toInt64) ((σ 3 (((41 : Int32) + ((4 : Int32) * x2)) + (1 : Int32)).toNatClampNeg).toInt64) σ).bind fun v41 => if v41 = 0 then (fX12_rangeOf_l9 x1 n (x2 + (-1 : Int32)) σ) else (some (.inl x2)))
set_option maxRecDepth 100000 in
set_option maxHeartbeats 4000000 in
theorem bX12_rangeOf_l9 {p : Program} {l : Launch} {e : Env} {s : State} {m : MethodId} {args : Array Value} {below : List Frame} {meth : Method} {c : Code} {E : Ev} {b : Nat} (C : Cx p l s m args meth c E cX12_rangeOf 3 RX12 (some .int)) (x1 : Int32) (σ : Mem) (r0 : Int32) {q0 : Int32 ⊕ (Int32)} (hr : ∀ r, q0 = .inl r → r = r0) (hx : ∀ q, q0 = .inr q → ∀ H locs ls, Wd E (LM E b) σ H → va_S (La (LM E b)) s.heap H locs → lv_has ls 3 [(0, .ref (b + 0)), (1, .int x1), (2, .int q)] → W p l e { frames := 1, cells := 0, slots := 0, locals := 25 } s m args below meth c H locs 0 0 (MQ below (Qz E (LM E b) (some (.int r0)) σ) args s 0 0 (La (LM E b))) (F0 m 55 ls [])) : ∀ (n : Nat) (x2 : Int32), fX12_rangeOf_l9 x1 n x2 σ = some q0 → ∀ (H : Heap) (locs : List Loc) (ls : Array Slot), Wd E (LM E b) σ H → va_S (La (LM E b)) s.heap H locs → lv_has ls 3 [(0, .ref (b + 0)), (1, .int x1), (2, .int x2)] → W p l e { frames := 1, cells := 0, slots := 0, locals := 25 } s m args below meth c H locs 0 0 (MQ below (Qz E (LM E b) (some (.int r0)) σ) args s 0 0 (La (LM E b))) (F0 m 9 ls []) := by
  have hx0 := C.1
  have hb := C.2.1
  intro n
  induction n with
  | zero => intro x2 h; simp [fX12_rangeOf_l9] at h
  | succ n ih =>
    intro x2 h H locs ls hW hS hl
    unfold fX12_rangeOf_l9 at h
    refine lv_iload_n hx0 hb dX12_rangeOf_9 rfl (lv_at hl 2 rfl) ?_
    refine lv_if_lt (tgt := 55) hx0 hb dX12_rangeOf_10 (by decide) (fun c10 => ?_) (fun c10 => ?_)
    · rw [if_pos c10] at h
      cases h
      exact hx _ rfl _ _ _ hW hS (lv_sub hl [0, 1, 2] rfl)
    · rw [if_neg c10] at h
      refine lv_iload_n hx0 hb dX12_rangeOf_13 rfl (lv_at hl 1 rfl) ?_
      refine lv_i2l hx0 hb dX12_rangeOf_14 rfl ?_
      refine lv_aload_n hx0 hb dX12_rangeOf_15 rfl (lv_at hl 0 rfl) ?_
      refine gtX12_5 C hW flX12_20 dX12_rangeOf_16 ?_
      refine lv_bipush (v := (41 : Int32)) hx0 hb dX12_rangeOf_19 (by decide) ?_
      refine lv_iconst (v := (4 : Int32)) hx0 hb dX12_rangeOf_21 (by decide) ?_
      refine lv_iload_n hx0 hb dX12_rangeOf_22 rfl (lv_at hl 2 rfl) ?_
      refine lv_imul hx0 hb dX12_rangeOf_23 ?_
      refine lv_iadd hx0 hb dX12_rangeOf_24 ?_
      by_cases z25 : ((41 : Int32) + ((4 : Int32) * x2)) < 0 ∨ lm 3 ≤ ((41 : Int32) + ((4 : Int32) * x2)).toNatClampNeg
      · rw [if_pos z25] at h; cases h
      rw [if_neg z25] at h
      refine ldIm (k := 3) C hW (by decide) z25 dX12_rangeOf_25 ?_
      refine lv_i2l hx0 hb dX12_rangeOf_26 rfl ?_
      refine lv_aload_n hx0 hb dX12_rangeOf_27 rfl (lv_at hl 0 rfl) ?_
      refine gtX12_5 C hW flX12_20 dX12_rangeOf_28 ?_
      refine lv_bipush (v := (41 : Int32)) hx0 hb dX12_rangeOf_31 (by decide) ?_
      refine lv_iconst (v := (4 : Int32)) hx0 hb dX12_rangeOf_33 (by decide) ?_
      refine lv_iload_n hx0 hb dX12_rangeOf_34 rfl (lv_at hl 2 rfl) ?_
      refine lv_imul hx0 hb dX12_rangeOf_35 ?_
      refine lv_iadd hx0 hb dX12_rangeOf_36 ?_
      refine lv_iconst (v := (1 : Int32)) hx0 hb dX12_rangeOf_37 (by decide) ?_
      refine lv_iadd hx0 hb dX12_rangeOf_38 ?_
      by_cases z39 : (((41 : Int32) + ((4 : Int32) * x2)) + (1 : Int32)) < 0 ∨ lm 3 ≤ (((41 : Int32) + ((4 : Int32) * x2)) + (1 : Int32)).toNatClampNeg
      · rw [if_pos z39] at h; cases h
      rw [if_neg z39] at h
      refine ldIm (k := 3) C hW (by decide) z39 dX12_rangeOf_39 ?_
      refine lv_i2l hx0 hb dX12_rangeOf_40 rfl ?_
      obtain ⟨v41, h41, h⟩ := bnd h
      try dsimp only at h
      refine w_callS (L := (LM E b)) (As := [.long x1.toInt64, .long ((σ 3 ((41 : Int32) + ((4 : Int32) * x2)).toNatClampNeg).toInt64), .long ((σ 3 (((41 : Int32) + ((4 : Int32) * x2)) + (1 : Int32)).toNatClampNeg).toInt64)]) (rest := []) C hW hS (mX12_isIn x1.toInt64 ((σ 3 ((41 : Int32) + ((4 : Int32) * x2)).toNatClampNeg).toInt64) ((σ 3 (((41 : Int32) + ((4 : Int32) * x2)) + (1 : Int32)).toNatClampNeg).toInt64)  σ v41 h41) cwX12_isIn csX12_isIn mlX12_101 ⟨by decide, by decide⟩ rfl hl.1 (Nat.le_of_ble_eq_true rfl) ⟨by decide, by decide⟩ dX12_rangeOf_41 rfl (fun H locs hW hS => ?_)
      refine lv_if_eq (tgt := 49) hx0 hb dX12_rangeOf_44 (by decide) (fun c44 => ?_) (fun c44 => ?_)
      · rw [if_pos c44] at h
        refine lv_iinc (v := x2 + (-1 : Int32)) (lv' := [(2, .int (x2 + (-1 : Int32))), (0, .ref (b + 0)), (1, .int x1)]) hx0 hb dX12_rangeOf_49 hl (k := 2) rfl rfl (by decide) rfl (fun ls hl => ?_)
        refine lv_goto (tgt := 9) hx0 hb dX12_rangeOf_52 (by decide) ?_
        exact ih (x2 + (-1 : Int32)) h _ _ _ hW hS (lv_sub hl [1, 2, 0] rfl)
      · rw [if_neg c44] at h
        refine lv_iload_n hx0 hb dX12_rangeOf_47 rfl (lv_at hl 2 rfl) ?_
        cases h
        cases hr _ rfl
        exact w_iret C hW hS dX12_rangeOf_48
def fX12_rangeOf (x1 : Int32) (σ : Mem) : Option Int32 :=
  if (1 : Int32) < 0 ∨ lm 3 ≤ (1 : Int32).toNatClampNeg then none else (fX12_rangeOf_l9 x1 FU ((σ 3 (1 : Int32).toNatClampNeg) - (1 : Int32)) σ).bind fun q9 => match q9 with | .inl r => some r | .inr q9 => some (-1 : Int32)
set_option maxRecDepth 100000 in
set_option maxHeartbeats 4000000 in
theorem mX12_rangeOf {l : Launch} {E : Ev} {b : Nat} (x1 : Int32) (σ : Mem) (r : Int32) (h : fX12_rangeOf x1 σ = some r) : Met l yX12_rangeOf (tw yX12_rangeOf cX12_rangeOf 3 (some .int)) { frames := 1, cells := 0, slots := 0, locals := 25 } (va_Pc [.ref (b + 0), .int x1] (Pr l E (LM E b) σ)) (Qz E (LM E b) (some (.int r)) σ) 0 0 (La (LM E b)) := by
  refine ct_of (by decide) (Nat.le_of_ble_eq_true rfl) ?_
  intro p e s m below meth c C hW hS ls hl
  have hx0 := C.1
  have hb := C.2.1
  have hl : lv_has ls 3 [(0, .ref (b + 0)), (1, .int x1)] := hl
  unfold fX12_rangeOf at h
  refine lv_aload_n hx0 hb dX12_rangeOf_0 rfl (lv_at hl 0 rfl) ?_
  refine gtX12_5 C hW flX12_20 dX12_rangeOf_1 ?_
  refine lv_iconst (v := (1 : Int32)) hx0 hb dX12_rangeOf_4 (by decide) ?_
  by_cases z5 : (1 : Int32) < 0 ∨ lm 3 ≤ (1 : Int32).toNatClampNeg
  · rw [if_pos z5] at h; cases h
  rw [if_neg z5] at h
  refine ldIm (k := 3) C hW (by decide) z5 dX12_rangeOf_5 ?_
  refine lv_iconst (v := (1 : Int32)) hx0 hb dX12_rangeOf_6 (by decide) ?_
  refine lv_isub hx0 hb dX12_rangeOf_7 ?_
  refine lv_istore_n (lv' := [(2, .int ((σ 3 (1 : Int32).toNatClampNeg) - (1 : Int32))), (0, .ref (b + 0)), (1, .int x1)]) hx0 hb dX12_rangeOf_8 rfl hl (by decide) rfl (fun ls hl => ?_)
  obtain ⟨q9, h9, h⟩ := bnd h
  refine bX12_rangeOf_l9 C x1  σ r (q0 := q9) ?_ ?_ FU ((σ 3 (1 : Int32).toNatClampNeg) - (1 : Int32)) h9 _ _ _ hW hS (lv_sub hl [1, 2, 0] rfl)
  · intro r1 hq; subst hq; (try dsimp only at h); exact Option.some.inj h
  · intro q9 hq H locs ls hW hS hl
    subst hq; try dsimp only at h
    refine lv_iconst (v := (-1 : Int32)) hx0 hb dX12_rangeOf_55 (by decide) ?_
    cases h
    exact w_iret C hW hS dX12_rangeOf_56
def fX12_writesLeafLabel (x1 : Int32) (x2 : Int32) (σ : Mem) : Option Mem :=
  (fX12_rangeOf x1 σ).bind fun v2 => if v2 = (-1 : Int32) then (some σ) else (if (((41 : Int32) + ((4 : Int32) * v2)) + (2 : Int32)) < 0 ∨ lm 3 ≤ (((41 : Int32) + ((4 : Int32) * v2)) + (2 : Int32)).toNatClampNeg then none else if (((41 : Int32) + ((4 : Int32) * v2)) + (3 : Int32)) < 0 ∨ lm 3 ≤ (((41 : Int32) + ((4 : Int32) * v2)) + (3 : Int32)).toNatClampNeg then none else if ((41 : Int32) + ((4 : Int32) * v2)) < 0 ∨ lm 3 ≤ ((41 : Int32) + ((4 : Int32) * v2)).toNatClampNeg then none else if (σ 3 (((41 : Int32) + ((4 : Int32) * v2)) + (2 : Int32)).toNatClampNeg) = 0 then ((fX12_writesNumber ((σ 3 (((41 : Int32) + ((4 : Int32) * v2)) + (3 : Int32)).toNatClampNeg) + (x1 - (σ 3 ((41 : Int32) + ((4 : Int32) * v2)).toNatClampNeg))) σ).bind fun v68 => if x2 = 0 then ((fX12_writes (114 : Int32) v68).bind fun v83 => some v83) else ((fX12_writes (118 : Int32) v68).bind fun v83 => some v83)) else (if (σ 3 (((41 : Int32) + ((4 : Int32) * v2)) + (2 : Int32)).toNatClampNeg) = (1 : Int32) then ((fX12_writesNumber (((σ 3 (((41 : Int32) + ((4 : Int32) * v2)) + (3 : Int32)).toNatClampNeg) + ((2 : Int32) * (x1 - (σ 3 ((41 : Int32) + ((4 : Int32) * v2)).toNatClampNeg)))) + x2) σ).bind fun v105 => some v105) else (if (σ 3 (((41 : Int32) + ((4 : Int32) * v2)) + (2 : Int32)).toNatClampNeg) = (2 : Int32) then ((fX12_writesRoman (((σ 3 (((41 : Int32) + ((4 : Int32) * v2)) + (3 : Int32)).toNatClampNeg) + ((2 : Int32) * (x1 - (σ 3 ((41 : Int32) + ((4 : Int32) * v2)).toNatClampNeg)))) + x2) σ).bind fun v127 => some v127) else (some σ))))
set_option maxRecDepth 100000 in
set_option maxHeartbeats 4000000 in
theorem mX12_writesLeafLabel {l : Launch} {E : Ev} {b : Nat} (x1 : Int32) (x2 : Int32) (σ : Mem) (r : Mem) (h : fX12_writesLeafLabel x1 x2 σ = some r) : Met l yX12_writesLeafLabel (tw yX12_writesLeafLabel cX12_writesLeafLabel 7 none) { frames := 5, cells := 0, slots := 0, locals := 184 } (va_Pc [.ref (b + 0), .int x1, .int x2] (Pr l E (LM E b) σ)) (Qz E (LM E b) none r) 0 0 (La (LM E b)) := by
  refine ct_of (by decide) (Nat.le_of_ble_eq_true rfl) ?_
  intro p e s m below meth c C hW hS ls hl
  have hx0 := C.1
  have hb := C.2.1
  have hl : lv_has ls 7 [(0, .ref (b + 0)), (1, .int x1), (2, .int x2)] := hl
  unfold fX12_writesLeafLabel at h
  refine lv_aload_n hx0 hb dX12_writesLeafLabel_0 rfl (lv_at hl 0 rfl) ?_
  refine lv_iload_n hx0 hb dX12_writesLeafLabel_1 rfl (lv_at hl 1 rfl) ?_
  obtain ⟨v2, h2, h⟩ := bnd h
  try dsimp only at h
  refine w_callV (L := (LM E b)) (k := 0) (As := [.int x1]) (rest := []) C hW hS (show 0 < 18 by decide) cm0 kcX12 (mX12_rangeOf x1  σ v2 h2) cwX12_rangeOf cvX12_rangeOf rfl mlX12_250 ⟨by decide, by decide⟩ rfl hl.1 (Nat.le_of_ble_eq_true rfl) ⟨by decide, by decide⟩ dX12_writesLeafLabel_2 rfl (fun H locs hW hS => ?_)
  refine lv_istore_n (lv' := [(3, .int v2), (0, .ref (b + 0)), (1, .int x1), (2, .int x2)]) hx0 hb dX12_writesLeafLabel_5 rfl hl (by decide) rfl (fun ls hl => ?_)
  refine lv_iload_n hx0 hb dX12_writesLeafLabel_6 rfl (lv_at hl 0 rfl) ?_
  refine lv_iconst (v := (-1 : Int32)) hx0 hb dX12_writesLeafLabel_7 (by decide) ?_
  refine lv_icmp_ne (tgt := 12) hx0 hb dX12_writesLeafLabel_8 (by decide) (fun c8 => ?_) (fun c8 => ?_)
  · rw [if_neg c8] at h
    refine lv_aload_n hx0 hb dX12_writesLeafLabel_12 rfl (lv_at hl 1 rfl) ?_
    refine gtX12_5 C hW flX12_20 dX12_writesLeafLabel_13 ?_
    refine lv_bipush (v := (41 : Int32)) hx0 hb dX12_writesLeafLabel_16 (by decide) ?_
    refine lv_iconst (v := (4 : Int32)) hx0 hb dX12_writesLeafLabel_18 (by decide) ?_
    refine lv_iload_n hx0 hb dX12_writesLeafLabel_19 rfl (lv_at hl 0 rfl) ?_
    refine lv_imul hx0 hb dX12_writesLeafLabel_20 ?_
    refine lv_iadd hx0 hb dX12_writesLeafLabel_21 ?_
    refine lv_iconst (v := (2 : Int32)) hx0 hb dX12_writesLeafLabel_22 (by decide) ?_
    refine lv_iadd hx0 hb dX12_writesLeafLabel_23 ?_
    by_cases z24 : (((41 : Int32) + ((4 : Int32) * v2)) + (2 : Int32)) < 0 ∨ lm 3 ≤ (((41 : Int32) + ((4 : Int32) * v2)) + (2 : Int32)).toNatClampNeg
    · rw [if_pos z24] at h; cases h
    rw [if_neg z24] at h
    refine ldIm (k := 3) C hW (by decide) z24 dX12_writesLeafLabel_24 ?_
    refine lv_istore (lv' := [(4, .int (σ 3 (((41 : Int32) + ((4 : Int32) * v2)) + (2 : Int32)).toNatClampNeg)), (3, .int v2), (0, .ref (b + 0)), (1, .int x1), (2, .int x2)]) hx0 hb dX12_writesLeafLabel_25 hl (by decide) rfl (fun ls hl => ?_)
    refine lv_aload_n hx0 hb dX12_writesLeafLabel_27 rfl (lv_at hl 2 rfl) ?_
    refine gtX12_5 C hW flX12_20 dX12_writesLeafLabel_28 ?_
    refine lv_bipush (v := (41 : Int32)) hx0 hb dX12_writesLeafLabel_31 (by decide) ?_
    refine lv_iconst (v := (4 : Int32)) hx0 hb dX12_writesLeafLabel_33 (by decide) ?_
    refine lv_iload_n hx0 hb dX12_writesLeafLabel_34 rfl (lv_at hl 1 rfl) ?_
    refine lv_imul hx0 hb dX12_writesLeafLabel_35 ?_
    refine lv_iadd hx0 hb dX12_writesLeafLabel_36 ?_
    refine lv_iconst (v := (3 : Int32)) hx0 hb dX12_writesLeafLabel_37 (by decide) ?_
    refine lv_iadd hx0 hb dX12_writesLeafLabel_38 ?_
    by_cases z39 : (((41 : Int32) + ((4 : Int32) * v2)) + (3 : Int32)) < 0 ∨ lm 3 ≤ (((41 : Int32) + ((4 : Int32) * v2)) + (3 : Int32)).toNatClampNeg
    · rw [if_pos z39] at h; cases h
    rw [if_neg z39] at h
    refine ldIm (k := 3) C hW (by decide) z39 dX12_writesLeafLabel_39 ?_
    refine lv_istore (lv' := [(5, .int (σ 3 (((41 : Int32) + ((4 : Int32) * v2)) + (3 : Int32)).toNatClampNeg)), (4, .int (σ 3 (((41 : Int32) + ((4 : Int32) * v2)) + (2 : Int32)).toNatClampNeg)), (3, .int v2), (0, .ref (b + 0)), (1, .int x1), (2, .int x2)]) hx0 hb dX12_writesLeafLabel_40 hl (by decide) rfl (fun ls hl => ?_)
    refine lv_iload_n hx0 hb dX12_writesLeafLabel_42 rfl (lv_at hl 4 rfl) ?_
    refine lv_aload_n hx0 hb dX12_writesLeafLabel_43 rfl (lv_at hl 3 rfl) ?_
    refine gtX12_5 C hW flX12_20 dX12_writesLeafLabel_44 ?_
    refine lv_bipush (v := (41 : Int32)) hx0 hb dX12_writesLeafLabel_47 (by decide) ?_
    refine lv_iconst (v := (4 : Int32)) hx0 hb dX12_writesLeafLabel_49 (by decide) ?_
    refine lv_iload_n hx0 hb dX12_writesLeafLabel_50 rfl (lv_at hl 2 rfl) ?_
    refine lv_imul hx0 hb dX12_writesLeafLabel_51 ?_
    refine lv_iadd hx0 hb dX12_writesLeafLabel_52 ?_
    by_cases z53 : ((41 : Int32) + ((4 : Int32) * v2)) < 0 ∨ lm 3 ≤ ((41 : Int32) + ((4 : Int32) * v2)).toNatClampNeg
    · rw [if_pos z53] at h; cases h
    rw [if_neg z53] at h
    refine ldIm (k := 3) C hW (by decide) z53 dX12_writesLeafLabel_53 ?_
    refine lv_isub hx0 hb dX12_writesLeafLabel_54 ?_
    refine lv_istore (lv' := [(6, .int (x1 - (σ 3 ((41 : Int32) + ((4 : Int32) * v2)).toNatClampNeg))), (5, .int (σ 3 (((41 : Int32) + ((4 : Int32) * v2)) + (3 : Int32)).toNatClampNeg)), (4, .int (σ 3 (((41 : Int32) + ((4 : Int32) * v2)) + (2 : Int32)).toNatClampNeg)), (3, .int v2), (0, .ref (b + 0)), (1, .int x1), (2, .int x2)]) hx0 hb dX12_writesLeafLabel_55 hl (by decide) rfl (fun ls hl => ?_)
    refine lv_iload hx0 hb dX12_writesLeafLabel_57 (lv_at hl 2 rfl) ?_
    refine lv_if_ne (tgt := 89) hx0 hb dX12_writesLeafLabel_59 (by decide) (fun c59 => ?_) (fun c59 => ?_)
    · rw [if_neg c59] at h
      refine lv_iload hx0 hb dX12_writesLeafLabel_89 (lv_at hl 2 rfl) ?_
      refine lv_iconst (v := (1 : Int32)) hx0 hb dX12_writesLeafLabel_91 (by decide) ?_
      refine lv_icmp_ne (tgt := 111) hx0 hb dX12_writesLeafLabel_92 (by decide) (fun c92 => ?_) (fun c92 => ?_)
      · rw [if_neg c92] at h
        refine lv_iload hx0 hb dX12_writesLeafLabel_111 (lv_at hl 2 rfl) ?_
        refine lv_iconst (v := (2 : Int32)) hx0 hb dX12_writesLeafLabel_113 (by decide) ?_
        refine lv_icmp_ne (tgt := 130) hx0 hb dX12_writesLeafLabel_114 (by decide) (fun c114 => ?_) (fun c114 => ?_)
        · rw [if_neg c114] at h
          cases h
          exact w_vret C hW hS dX12_writesLeafLabel_130
        · rw [if_pos c114] at h
          refine lv_aload_n hx0 hb dX12_writesLeafLabel_117 rfl (lv_at hl 4 rfl) ?_
          refine lv_iload hx0 hb dX12_writesLeafLabel_118 (lv_at hl 1 rfl) ?_
          refine lv_iconst (v := (2 : Int32)) hx0 hb dX12_writesLeafLabel_120 (by decide) ?_
          refine lv_iload hx0 hb dX12_writesLeafLabel_121 (lv_at hl 0 rfl) ?_
          refine lv_imul hx0 hb dX12_writesLeafLabel_123 ?_
          refine lv_iadd hx0 hb dX12_writesLeafLabel_124 ?_
          refine lv_iload_n hx0 hb dX12_writesLeafLabel_125 rfl (lv_at hl 6 rfl) ?_
          refine lv_iadd hx0 hb dX12_writesLeafLabel_126 ?_
          obtain ⟨v127, h127, h⟩ := bnd h
          try dsimp only at h
          refine w_callV (L := (LM E b)) (k := 0) (As := [.int (((σ 3 (((41 : Int32) + ((4 : Int32) * v2)) + (3 : Int32)).toNatClampNeg) + ((2 : Int32) * (x1 - (σ 3 ((41 : Int32) + ((4 : Int32) * v2)).toNatClampNeg)))) + x2)]) (rest := []) C hW hS (show 0 < 18 by decide) cm0 kcX12 (mX12_writesRoman (((σ 3 (((41 : Int32) + ((4 : Int32) * v2)) + (3 : Int32)).toNatClampNeg) + ((2 : Int32) * (x1 - (σ 3 ((41 : Int32) + ((4 : Int32) * v2)).toNatClampNeg)))) + x2)  σ v127 h127) cwX12_writesRoman cvX12_writesRoman rfl mlX12_256 ⟨by decide, by decide⟩ rfl hl.1 (Nat.le_of_ble_eq_true rfl) ⟨by decide, by decide⟩ dX12_writesLeafLabel_127 rfl (fun H locs hW hS => ?_)
          cases h
          exact w_vret C hW hS dX12_writesLeafLabel_130
      · rw [if_pos c92] at h
        refine lv_aload_n hx0 hb dX12_writesLeafLabel_95 rfl (lv_at hl 4 rfl) ?_
        refine lv_iload hx0 hb dX12_writesLeafLabel_96 (lv_at hl 1 rfl) ?_
        refine lv_iconst (v := (2 : Int32)) hx0 hb dX12_writesLeafLabel_98 (by decide) ?_
        refine lv_iload hx0 hb dX12_writesLeafLabel_99 (lv_at hl 0 rfl) ?_
        refine lv_imul hx0 hb dX12_writesLeafLabel_101 ?_
        refine lv_iadd hx0 hb dX12_writesLeafLabel_102 ?_
        refine lv_iload_n hx0 hb dX12_writesLeafLabel_103 rfl (lv_at hl 6 rfl) ?_
        refine lv_iadd hx0 hb dX12_writesLeafLabel_104 ?_
        obtain ⟨v105, h105, h⟩ := bnd h
        try dsimp only at h
        refine w_callV (L := (LM E b)) (k := 0) (As := [.int (((σ 3 (((41 : Int32) + ((4 : Int32) * v2)) + (3 : Int32)).toNatClampNeg) + ((2 : Int32) * (x1 - (σ 3 ((41 : Int32) + ((4 : Int32) * v2)).toNatClampNeg)))) + x2)]) (rest := []) C hW hS (show 0 < 18 by decide) cm0 kcX12 (mX12_writesNumber (((σ 3 (((41 : Int32) + ((4 : Int32) * v2)) + (3 : Int32)).toNatClampNeg) + ((2 : Int32) * (x1 - (σ 3 ((41 : Int32) + ((4 : Int32) * v2)).toNatClampNeg)))) + x2)  σ v105 h105) cwX12_writesNumber cvX12_writesNumber rfl mlX12_253 ⟨by decide, by decide⟩ rfl hl.1 (Nat.le_of_ble_eq_true rfl) ⟨by decide, by decide⟩ dX12_writesLeafLabel_105 rfl (fun H locs hW hS => ?_)
        refine lv_goto (tgt := 130) hx0 hb dX12_writesLeafLabel_108 (by decide) ?_
        cases h
        exact w_vret C hW hS dX12_writesLeafLabel_130
    · rw [if_pos c59] at h
      refine lv_aload_n hx0 hb dX12_writesLeafLabel_62 rfl (lv_at hl 4 rfl) ?_
      refine lv_iload hx0 hb dX12_writesLeafLabel_63 (lv_at hl 1 rfl) ?_
      refine lv_iload hx0 hb dX12_writesLeafLabel_65 (lv_at hl 0 rfl) ?_
      refine lv_iadd hx0 hb dX12_writesLeafLabel_67 ?_
      obtain ⟨v68, h68, h⟩ := bnd h
      try dsimp only at h
      refine w_callV (L := (LM E b)) (k := 0) (As := [.int ((σ 3 (((41 : Int32) + ((4 : Int32) * v2)) + (3 : Int32)).toNatClampNeg) + (x1 - (σ 3 ((41 : Int32) + ((4 : Int32) * v2)).toNatClampNeg)))]) (rest := []) C hW hS (show 0 < 18 by decide) cm0 kcX12 (mX12_writesNumber ((σ 3 (((41 : Int32) + ((4 : Int32) * v2)) + (3 : Int32)).toNatClampNeg) + (x1 - (σ 3 ((41 : Int32) + ((4 : Int32) * v2)).toNatClampNeg)))  σ v68 h68) cwX12_writesNumber cvX12_writesNumber rfl mlX12_253 ⟨by decide, by decide⟩ rfl hl.1 (Nat.le_of_ble_eq_true rfl) ⟨by decide, by decide⟩ dX12_writesLeafLabel_68 rfl (fun H locs hW hS => ?_)
      refine lv_aload_n hx0 hb dX12_writesLeafLabel_71 rfl (lv_at hl 4 rfl) ?_
      refine lv_iload_n hx0 hb dX12_writesLeafLabel_72 rfl (lv_at hl 6 rfl) ?_
      refine lv_if_ne (tgt := 81) hx0 hb dX12_writesLeafLabel_73 (by decide) (fun c73 => ?_) (fun c73 => ?_)
      · rw [if_neg c73] at h
        refine lv_bipush (v := (118 : Int32)) hx0 hb dX12_writesLeafLabel_81 (by decide) ?_
        obtain ⟨v83, h83, h⟩ := bnd h
        try dsimp only at h
        refine w_callV (L := (LM E b)) (k := 0) (As := [.int (118 : Int32)]) (rest := []) C hW hS (show 0 < 18 by decide) cm0 kcX12 (mX12_writes (118 : Int32)  v68 v83 h83) cwX12_writes cvX12_writes rfl mlX12_245 ⟨by decide, by decide⟩ rfl hl.1 (Nat.le_of_ble_eq_true rfl) ⟨by decide, by decide⟩ dX12_writesLeafLabel_83 rfl (fun H locs hW hS => ?_)
        refine lv_goto (tgt := 130) hx0 hb dX12_writesLeafLabel_86 (by decide) ?_
        cases h
        exact w_vret C hW hS dX12_writesLeafLabel_130
      · rw [if_pos c73] at h
        refine lv_bipush (v := (114 : Int32)) hx0 hb dX12_writesLeafLabel_76 (by decide) ?_
        refine lv_goto (tgt := 83) hx0 hb dX12_writesLeafLabel_78 (by decide) ?_
        obtain ⟨v83, h83, h⟩ := bnd h
        try dsimp only at h
        refine w_callV (L := (LM E b)) (k := 0) (As := [.int (114 : Int32)]) (rest := []) C hW hS (show 0 < 18 by decide) cm0 kcX12 (mX12_writes (114 : Int32)  v68 v83 h83) cwX12_writes cvX12_writes rfl mlX12_245 ⟨by decide, by decide⟩ rfl hl.1 (Nat.le_of_ble_eq_true rfl) ⟨by decide, by decide⟩ dX12_writesLeafLabel_83 rfl (fun H locs hW hS => ?_)
        refine lv_goto (tgt := 130) hx0 hb dX12_writesLeafLabel_86 (by decide) ?_
        cases h
        exact w_vret C hW hS dX12_writesLeafLabel_130
  · rw [if_pos c8] at h
    cases h
    exact w_vret C hW hS dX12_writesLeafLabel_11
def fX12_laysLabel (x1 : Int32) (σ : Mem) : Option Mem :=
  if ((4 : Int32) * x1) < 0 ∨ lm 8 ≤ ((4 : Int32) * x1).toNatClampNeg then none else if (((4 : Int32) * x1) + (1 : Int32)) < 0 ∨ lm 8 ≤ (((4 : Int32) * x1) + (1 : Int32)).toNatClampNeg then none else if (((4 : Int32) * x1) + (2 : Int32)) < 0 ∨ lm 8 ≤ (((4 : Int32) * x1) + (2 : Int32)).toNatClampNeg then none else (fX12_writesLeafLabel ((up σ 0 21 (0 : Int32)) 8 ((4 : Int32) * x1).toNatClampNeg) ((up σ 0 21 (0 : Int32)) 8 (((4 : Int32) * x1) + (1 : Int32)).toNatClampNeg) (up σ 0 21 (0 : Int32))).bind fun v40 => if ((up σ 0 21 (0 : Int32)) 8 (((4 : Int32) * x1) + (2 : Int32)).toNatClampNeg) = (-1 : Int32) then (some v40) else ((fX12_writes (42 : Int32) v40).bind fun v53 => (fX12_slipsOn ((up σ 0 21 (0 : Int32)) 8 ((4 : Int32) * x1).toNatClampNeg) ((up σ 0 21 (0 : Int32)) 8 (((4 : Int32) * x1) + (1 : Int32)).toNatClampNeg) ((up σ 0 21 (0 : Int32)) 8 (((4 : Int32) * x1) + (2 : Int32)).toNatClampNeg) v53).bind fun v64 => (fX12_writes ((97 : Int32) + v64) v53).bind fun v68 => if (((4 : Int32) * x1) + (3 : Int32)) < 0 ∨ lm 8 ≤ (((4 : Int32) * x1) + (3 : Int32)).toNatClampNeg then none else if (v68 8 (((4 : Int32) * x1) + (3 : Int32)).toNatClampNeg) = (1 : Int32) then ((fX12_writes (118 : Int32) v68).bind fun v88 => some v88) else (some v68))
set_option maxRecDepth 100000 in
set_option maxHeartbeats 4000000 in
theorem mX12_laysLabel {l : Launch} {E : Ev} {b : Nat} (x1 : Int32) (σ : Mem) (r : Mem) (h : fX12_laysLabel x1 σ = some r) : Met l yX12_laysLabel (tw yX12_laysLabel cX12_laysLabel 5 none) { frames := 6, cells := 0, slots := 0, locals := 210 } (va_Pc [.ref (b + 0), .int x1] (Pr l E (LM E b) σ)) (Qz E (LM E b) none r) 0 0 (La (LM E b)) := by
  refine ct_of (by decide) (Nat.le_of_ble_eq_true rfl) ?_
  intro p e s m below meth c C hW hS ls hl
  have hx0 := C.1
  have hb := C.2.1
  have hl : lv_has ls 5 [(0, .ref (b + 0)), (1, .int x1)] := hl
  unfold fX12_laysLabel at h
  refine lv_aload_n hx0 hb dX12_laysLabel_0 rfl (lv_at hl 0 rfl) ?_
  refine lv_iconst (v := (0 : Int32)) hx0 hb dX12_laysLabel_1 (by decide) ?_
  refine ptX12_21 C hW hS flX12_242 dX12_laysLabel_2 (fun H locs hW hS => ?_)
  refine lv_aload_n hx0 hb dX12_laysLabel_5 rfl (lv_at hl 0 rfl) ?_
  refine gtX12_16 C hW flX12_36 dX12_laysLabel_6 ?_
  refine lv_iconst (v := (4 : Int32)) hx0 hb dX12_laysLabel_9 (by decide) ?_
  refine lv_iload_n hx0 hb dX12_laysLabel_10 rfl (lv_at hl 1 rfl) ?_
  refine lv_imul hx0 hb dX12_laysLabel_11 ?_
  by_cases z12 : ((4 : Int32) * x1) < 0 ∨ lm 8 ≤ ((4 : Int32) * x1).toNatClampNeg
  · rw [if_pos z12] at h; cases h
  rw [if_neg z12] at h
  refine ldIm (k := 8) C hW (by decide) z12 dX12_laysLabel_12 ?_
  refine lv_istore_n (lv' := [(2, .int ((up σ 0 21 (0 : Int32)) 8 ((4 : Int32) * x1).toNatClampNeg)), (0, .ref (b + 0)), (1, .int x1)]) hx0 hb dX12_laysLabel_13 rfl hl (by decide) rfl (fun ls hl => ?_)
  refine lv_aload_n hx0 hb dX12_laysLabel_14 rfl (lv_at hl 1 rfl) ?_
  refine gtX12_16 C hW flX12_36 dX12_laysLabel_15 ?_
  refine lv_iconst (v := (4 : Int32)) hx0 hb dX12_laysLabel_18 (by decide) ?_
  refine lv_iload_n hx0 hb dX12_laysLabel_19 rfl (lv_at hl 2 rfl) ?_
  refine lv_imul hx0 hb dX12_laysLabel_20 ?_
  refine lv_iconst (v := (1 : Int32)) hx0 hb dX12_laysLabel_21 (by decide) ?_
  refine lv_iadd hx0 hb dX12_laysLabel_22 ?_
  by_cases z23 : (((4 : Int32) * x1) + (1 : Int32)) < 0 ∨ lm 8 ≤ (((4 : Int32) * x1) + (1 : Int32)).toNatClampNeg
  · rw [if_pos z23] at h; cases h
  rw [if_neg z23] at h
  refine ldIm (k := 8) C hW (by decide) z23 dX12_laysLabel_23 ?_
  refine lv_istore_n (lv' := [(3, .int ((up σ 0 21 (0 : Int32)) 8 (((4 : Int32) * x1) + (1 : Int32)).toNatClampNeg)), (2, .int ((up σ 0 21 (0 : Int32)) 8 ((4 : Int32) * x1).toNatClampNeg)), (0, .ref (b + 0)), (1, .int x1)]) hx0 hb dX12_laysLabel_24 rfl hl (by decide) rfl (fun ls hl => ?_)
  refine lv_aload_n hx0 hb dX12_laysLabel_25 rfl (lv_at hl 2 rfl) ?_
  refine gtX12_16 C hW flX12_36 dX12_laysLabel_26 ?_
  refine lv_iconst (v := (4 : Int32)) hx0 hb dX12_laysLabel_29 (by decide) ?_
  refine lv_iload_n hx0 hb dX12_laysLabel_30 rfl (lv_at hl 3 rfl) ?_
  refine lv_imul hx0 hb dX12_laysLabel_31 ?_
  refine lv_iconst (v := (2 : Int32)) hx0 hb dX12_laysLabel_32 (by decide) ?_
  refine lv_iadd hx0 hb dX12_laysLabel_33 ?_
  by_cases z34 : (((4 : Int32) * x1) + (2 : Int32)) < 0 ∨ lm 8 ≤ (((4 : Int32) * x1) + (2 : Int32)).toNatClampNeg
  · rw [if_pos z34] at h; cases h
  rw [if_neg z34] at h
  refine ldIm (k := 8) C hW (by decide) z34 dX12_laysLabel_34 ?_
  refine lv_istore (lv' := [(4, .int ((up σ 0 21 (0 : Int32)) 8 (((4 : Int32) * x1) + (2 : Int32)).toNatClampNeg)), (3, .int ((up σ 0 21 (0 : Int32)) 8 (((4 : Int32) * x1) + (1 : Int32)).toNatClampNeg)), (2, .int ((up σ 0 21 (0 : Int32)) 8 ((4 : Int32) * x1).toNatClampNeg)), (0, .ref (b + 0)), (1, .int x1)]) hx0 hb dX12_laysLabel_35 hl (by decide) rfl (fun ls hl => ?_)
  refine lv_aload_n hx0 hb dX12_laysLabel_37 rfl (lv_at hl 3 rfl) ?_
  refine lv_iload_n hx0 hb dX12_laysLabel_38 rfl (lv_at hl 2 rfl) ?_
  refine lv_iload_n hx0 hb dX12_laysLabel_39 rfl (lv_at hl 1 rfl) ?_
  obtain ⟨v40, h40, h⟩ := bnd h
  try dsimp only at h
  refine w_callV (L := (LM E b)) (k := 0) (As := [.int ((up σ 0 21 (0 : Int32)) 8 ((4 : Int32) * x1).toNatClampNeg), .int ((up σ 0 21 (0 : Int32)) 8 (((4 : Int32) * x1) + (1 : Int32)).toNatClampNeg)]) (rest := []) C hW hS (show 0 < 18 by decide) cm0 kcX12 (mX12_writesLeafLabel ((up σ 0 21 (0 : Int32)) 8 ((4 : Int32) * x1).toNatClampNeg) ((up σ 0 21 (0 : Int32)) 8 (((4 : Int32) * x1) + (1 : Int32)).toNatClampNeg)  (up σ 0 21 (0 : Int32)) v40 h40) cwX12_writesLeafLabel cvX12_writesLeafLabel rfl mlX12_259 ⟨by decide, by decide⟩ rfl hl.1 (Nat.le_of_ble_eq_true rfl) ⟨by decide, by decide⟩ dX12_laysLabel_40 rfl (fun H locs hW hS => ?_)
  refine lv_iload hx0 hb dX12_laysLabel_43 (lv_at hl 0 rfl) ?_
  refine lv_iconst (v := (-1 : Int32)) hx0 hb dX12_laysLabel_45 (by decide) ?_
  refine lv_icmp_ne (tgt := 50) hx0 hb dX12_laysLabel_46 (by decide) (fun c46 => ?_) (fun c46 => ?_)
  · rw [if_neg c46] at h
    refine lv_aload_n hx0 hb dX12_laysLabel_50 rfl (lv_at hl 3 rfl) ?_
    refine lv_bipush (v := (42 : Int32)) hx0 hb dX12_laysLabel_51 (by decide) ?_
    obtain ⟨v53, h53, h⟩ := bnd h
    try dsimp only at h
    refine w_callV (L := (LM E b)) (k := 0) (As := [.int (42 : Int32)]) (rest := []) C hW hS (show 0 < 18 by decide) cm0 kcX12 (mX12_writes (42 : Int32)  v40 v53 h53) cwX12_writes cvX12_writes rfl mlX12_245 ⟨by decide, by decide⟩ rfl hl.1 (Nat.le_of_ble_eq_true rfl) ⟨by decide, by decide⟩ dX12_laysLabel_53 rfl (fun H locs hW hS => ?_)
    refine lv_aload_n hx0 hb dX12_laysLabel_56 rfl (lv_at hl 3 rfl) ?_
    refine lv_bipush (v := (97 : Int32)) hx0 hb dX12_laysLabel_57 (by decide) ?_
    refine lv_aload_n hx0 hb dX12_laysLabel_59 rfl (lv_at hl 3 rfl) ?_
    refine lv_iload_n hx0 hb dX12_laysLabel_60 rfl (lv_at hl 2 rfl) ?_
    refine lv_iload_n hx0 hb dX12_laysLabel_61 rfl (lv_at hl 1 rfl) ?_
    refine lv_iload hx0 hb dX12_laysLabel_62 (lv_at hl 0 rfl) ?_
    obtain ⟨v64, h64, h⟩ := bnd h
    try dsimp only at h
    refine w_callV (L := (LM E b)) (k := 0) (As := [.int ((up σ 0 21 (0 : Int32)) 8 ((4 : Int32) * x1).toNatClampNeg), .int ((up σ 0 21 (0 : Int32)) 8 (((4 : Int32) * x1) + (1 : Int32)).toNatClampNeg), .int ((up σ 0 21 (0 : Int32)) 8 (((4 : Int32) * x1) + (2 : Int32)).toNatClampNeg)]) (rest := [.int (97 : Int32), .ref (b + 0)]) C hW hS (show 0 < 18 by decide) cm0 kcX12 (mX12_slipsOn ((up σ 0 21 (0 : Int32)) 8 ((4 : Int32) * x1).toNatClampNeg) ((up σ 0 21 (0 : Int32)) 8 (((4 : Int32) * x1) + (1 : Int32)).toNatClampNeg) ((up σ 0 21 (0 : Int32)) 8 (((4 : Int32) * x1) + (2 : Int32)).toNatClampNeg)  v53 v64 h64) cwX12_slipsOn cvX12_slipsOn rfl mlX12_225 ⟨by decide, by decide⟩ rfl hl.1 (Nat.le_of_ble_eq_true rfl) ⟨by decide, by decide⟩ dX12_laysLabel_64 rfl (fun H locs hW hS => ?_)
    refine lv_iadd hx0 hb dX12_laysLabel_67 ?_
    obtain ⟨v68, h68, h⟩ := bnd h
    try dsimp only at h
    refine w_callV (L := (LM E b)) (k := 0) (As := [.int ((97 : Int32) + v64)]) (rest := []) C hW hS (show 0 < 18 by decide) cm0 kcX12 (mX12_writes ((97 : Int32) + v64)  v53 v68 h68) cwX12_writes cvX12_writes rfl mlX12_245 ⟨by decide, by decide⟩ rfl hl.1 (Nat.le_of_ble_eq_true rfl) ⟨by decide, by decide⟩ dX12_laysLabel_68 rfl (fun H locs hW hS => ?_)
    refine lv_aload_n hx0 hb dX12_laysLabel_71 rfl (lv_at hl 3 rfl) ?_
    refine gtX12_16 C hW flX12_36 dX12_laysLabel_72 ?_
    refine lv_iconst (v := (4 : Int32)) hx0 hb dX12_laysLabel_75 (by decide) ?_
    refine lv_iload_n hx0 hb dX12_laysLabel_76 rfl (lv_at hl 4 rfl) ?_
    refine lv_imul hx0 hb dX12_laysLabel_77 ?_
    refine lv_iconst (v := (3 : Int32)) hx0 hb dX12_laysLabel_78 (by decide) ?_
    refine lv_iadd hx0 hb dX12_laysLabel_79 ?_
    by_cases z80 : (((4 : Int32) * x1) + (3 : Int32)) < 0 ∨ lm 8 ≤ (((4 : Int32) * x1) + (3 : Int32)).toNatClampNeg
    · rw [if_pos z80] at h; cases h
    rw [if_neg z80] at h
    refine ldIm (k := 8) C hW (by decide) z80 dX12_laysLabel_80 ?_
    refine lv_iconst (v := (1 : Int32)) hx0 hb dX12_laysLabel_81 (by decide) ?_
    refine lv_icmp_ne (tgt := 91) hx0 hb dX12_laysLabel_82 (by decide) (fun c82 => ?_) (fun c82 => ?_)
    · rw [if_neg c82] at h
      cases h
      exact w_vret C hW hS dX12_laysLabel_91
    · rw [if_pos c82] at h
      refine lv_aload_n hx0 hb dX12_laysLabel_85 rfl (lv_at hl 3 rfl) ?_
      refine lv_bipush (v := (118 : Int32)) hx0 hb dX12_laysLabel_86 (by decide) ?_
      obtain ⟨v88, h88, h⟩ := bnd h
      try dsimp only at h
      refine w_callV (L := (LM E b)) (k := 0) (As := [.int (118 : Int32)]) (rest := []) C hW hS (show 0 < 18 by decide) cm0 kcX12 (mX12_writes (118 : Int32)  v68 v88 h88) cwX12_writes cvX12_writes rfl mlX12_245 ⟨by decide, by decide⟩ rfl hl.1 (Nat.le_of_ble_eq_true rfl) ⟨by decide, by decide⟩ dX12_laysLabel_88 rfl (fun H locs hW hS => ?_)
      cases h
      exact w_vret C hW hS dX12_laysLabel_91
  · rw [if_pos c46] at h
    cases h
    exact w_vret C hW hS dX12_laysLabel_49
def fX12_tells_l2 : Nat → Int32 → Mem → Option (Int32 × Mem)
  | 0, _, _ => none
  | n + 1, x1, σ => if (σ 0 21) ≤ x1 then (some (x1, σ)) else (if x1 < 0 ∨ lm 10 ≤ x1.toNatClampNeg then none else if x1 < 0 ∨ lm 9 ≤ x1.toNatClampNeg then none else fX12_tells_l2 n (x1 + (1 : Int32)) (up σ 9 x1.toNatClampNeg (vp_nar .byte (σ 10 x1.toNatClampNeg))))
set_option maxRecDepth 100000 in
set_option maxHeartbeats 4000000 in
theorem bX12_tells_l2 {p : Program} {l : Launch} {e : Env} {s : State} {m : MethodId} {args : Array Value} {below : List Frame} {meth : Method} {c : Code} {E : Ev} {b : Nat} (C : Cx p l s m args meth c E cX12_tells 2 RX12 (some .int)) {Qf : State → Prop} {q : Int32 × Mem} (hx : ∀ H locs ls, Wd E (LM E b) q.2 H → va_S (La (LM E b)) s.heap H locs → lv_has ls 2 [(0, .ref (b + 0)), (1, .int q.1)] → W p l e { frames := 0, cells := 0, slots := 0, locals := 0 } s m args below meth c H locs 0 0 Qf (F0 m 28 ls [])) : ∀ (n : Nat) (x1 : Int32) (σ : Mem), fX12_tells_l2 n x1 σ = some q → ∀ (H : Heap) (locs : List Loc) (ls : Array Slot), Wd E (LM E b) σ H → va_S (La (LM E b)) s.heap H locs → lv_has ls 2 [(0, .ref (b + 0)), (1, .int x1)] → W p l e { frames := 0, cells := 0, slots := 0, locals := 0 } s m args below meth c H locs 0 0 Qf (F0 m 2 ls []) := by
  have hx0 := C.1
  have hb := C.2.1
  intro n
  induction n with
  | zero => intro x1 σ h; simp [fX12_tells_l2] at h
  | succ n ih =>
    intro x1 σ h H locs ls hW hS hl
    unfold fX12_tells_l2 at h
    refine lv_iload_n hx0 hb dX12_tells_2 rfl (lv_at hl 1 rfl) ?_
    refine lv_aload_n hx0 hb dX12_tells_3 rfl (lv_at hl 0 rfl) ?_
    refine gtX12_21 C hW flX12_242 dX12_tells_4 ?_
    refine lv_icmp_ge (tgt := 28) hx0 hb dX12_tells_7 (by decide) (fun c7 => ?_) (fun c7 => ?_)
    · rw [if_pos c7] at h
      cases h
      exact hx _ _ _ hW hS (lv_sub hl [0, 1] rfl)
    · rw [if_neg c7] at h
      refine lv_aload_n hx0 hb dX12_tells_10 rfl (lv_at hl 0 rfl) ?_
      refine gtX12_18 C hW flX12_39 dX12_tells_11 ?_
      refine lv_iload_n hx0 hb dX12_tells_14 rfl (lv_at hl 1 rfl) ?_
      refine lv_aload_n hx0 hb dX12_tells_15 rfl (lv_at hl 0 rfl) ?_
      refine gtX12_19 C hW flX12_42 dX12_tells_16 ?_
      refine lv_iload_n hx0 hb dX12_tells_19 rfl (lv_at hl 1 rfl) ?_
      by_cases z20 : x1 < 0 ∨ lm 10 ≤ x1.toNatClampNeg
      · rw [if_pos z20] at h; cases h
      rw [if_neg z20] at h
      refine ldBm (k := 10) C hW (by decide) z20 dX12_tells_20 ?_
      by_cases z21 : x1 < 0 ∨ lm 9 ≤ x1.toNatClampNeg
      · rw [if_pos z21] at h; cases h
      rw [if_neg z21] at h
      refine saBm (k := 9) C hW hS (by decide) z21 dX12_tells_21 (fun H locs hW hS => ?_)
      refine lv_iinc (v := x1 + (1 : Int32)) (lv' := [(1, .int (x1 + (1 : Int32))), (0, .ref (b + 0))]) hx0 hb dX12_tells_22 hl (k := 1) rfl rfl (by decide) rfl (fun ls hl => ?_)
      refine lv_goto (tgt := 2) hx0 hb dX12_tells_25 (by decide) ?_
      exact ih (x1 + (1 : Int32)) (up σ 9 x1.toNatClampNeg (vp_nar .byte (σ 10 x1.toNatClampNeg))) h _ _ _ hW hS (lv_sub hl [1, 0] rfl)
def fX12_tells (σ : Mem) : Option (Int32 × Mem) :=
  (fX12_tells_l2 FU (0 : Int32) σ).bind fun q2 => some ((up q2.2 0 20 (q2.2 0 21)) 0 21, up q2.2 0 20 (q2.2 0 21))
set_option maxRecDepth 100000 in
set_option maxHeartbeats 4000000 in
theorem mX12_tells {l : Launch} {E : Ev} {b : Nat} (σ : Mem) (r : (Int32 × Mem)) (h : fX12_tells σ = some r) : Met l yX12_tells (tw yX12_tells cX12_tells 2 (some .int)) { frames := 0, cells := 0, slots := 0, locals := 0 } (va_Pc [.ref (b + 0)] (Pr l E (LM E b) σ)) (Qz E (LM E b) (some (.int r.1)) r.2) 0 0 (La (LM E b)) := by
  refine ct_of (by decide) (Nat.le_of_ble_eq_true rfl) ?_
  intro p e s m below meth c C hW hS ls hl
  have hx0 := C.1
  have hb := C.2.1
  have hl : lv_has ls 2 [(0, .ref (b + 0))] := hl
  unfold fX12_tells at h
  refine lv_iconst (v := (0 : Int32)) hx0 hb dX12_tells_0 (by decide) ?_
  refine lv_istore_n (lv' := [(1, .int (0 : Int32)), (0, .ref (b + 0))]) hx0 hb dX12_tells_1 rfl hl (by decide) rfl (fun ls hl => ?_)
  obtain ⟨q2, h2, h⟩ := bnd h
  try dsimp only at h
  refine bX12_tells_l2 C   (q := q2) ?_ FU (0 : Int32) σ h2 _ _ _ hW hS (lv_sub hl [1, 0] rfl)
  intro H locs ls hW hS hl
  refine lv_aload_n hx0 hb dX12_tells_28 rfl (lv_at hl 0 rfl) ?_
  refine lv_aload_n hx0 hb dX12_tells_29 rfl (lv_at hl 0 rfl) ?_
  refine gtX12_21 C hW flX12_242 dX12_tells_30 ?_
  refine ptX12_20 C hW hS flX12_263 dX12_tells_33 (fun H locs hW hS => ?_)
  refine lv_aload_n hx0 hb dX12_tells_36 rfl (lv_at hl 0 rfl) ?_
  refine gtX12_21 C hW flX12_242 dX12_tells_37 ?_
  cases h
  exact w_iret C hW hS dX12_tells_40
def fX12_ofScan (x1 : Int32) (x2 : Int32) (σ : Mem) : Option Int32 :=
  if (((89 : Int32) + ((3 : Int32) * x1)) + x2) < 0 ∨ lm 3 ≤ (((89 : Int32) + ((3 : Int32) * x1)) + x2).toNatClampNeg then none else some (σ 3 (((89 : Int32) + ((3 : Int32) * x1)) + x2).toNatClampNeg)
set_option maxRecDepth 100000 in
set_option maxHeartbeats 4000000 in
theorem mX12_ofScan {l : Launch} {E : Ev} {b : Nat} (x1 : Int32) (x2 : Int32) (σ : Mem) (r : Int32) (h : fX12_ofScan x1 x2 σ = some r) : Met l yX12_ofScan (tw yX12_ofScan cX12_ofScan 3 (some .int)) { frames := 0, cells := 0, slots := 0, locals := 0 } (va_Pc [.ref (b + 0), .int x1, .int x2] (Pr l E (LM E b) σ)) (Qz E (LM E b) (some (.int r)) σ) 0 0 (La (LM E b)) := by
  refine ct_of (by decide) (Nat.le_of_ble_eq_true rfl) ?_
  intro p e s m below meth c C hW hS ls hl
  have hx0 := C.1
  have hb := C.2.1
  have hl : lv_has ls 3 [(0, .ref (b + 0)), (1, .int x1), (2, .int x2)] := hl
  unfold fX12_ofScan at h
  refine lv_aload_n hx0 hb dX12_ofScan_0 rfl (lv_at hl 0 rfl) ?_
  refine gtX12_5 C hW flX12_20 dX12_ofScan_1 ?_
  refine lv_bipush (v := (89 : Int32)) hx0 hb dX12_ofScan_4 (by decide) ?_
  refine lv_iconst (v := (3 : Int32)) hx0 hb dX12_ofScan_6 (by decide) ?_
  refine lv_iload_n hx0 hb dX12_ofScan_7 rfl (lv_at hl 1 rfl) ?_
  refine lv_imul hx0 hb dX12_ofScan_8 ?_
  refine lv_iadd hx0 hb dX12_ofScan_9 ?_
  refine lv_iload_n hx0 hb dX12_ofScan_10 rfl (lv_at hl 2 rfl) ?_
  refine lv_iadd hx0 hb dX12_ofScan_11 ?_
  by_cases z12 : (((89 : Int32) + ((3 : Int32) * x1)) + x2) < 0 ∨ lm 3 ≤ (((89 : Int32) + ((3 : Int32) * x1)) + x2).toNatClampNeg
  · rw [if_pos z12] at h; cases h
  rw [if_neg z12] at h
  refine ldIm (k := 3) C hW (by decide) z12 dX12_ofScan_12 ?_
  cases h
  exact w_iret C hW hS dX12_ofScan_13
def fX12_isScan (x1 : Int32) (σ : Mem) : Option Int32 :=
  if (2 : Int32) < 0 ∨ lm 3 ≤ (2 : Int32).toNatClampNeg then none else (fX12_isIn x1.toInt64 (0 : Int64) (((σ 3 (2 : Int32).toNatClampNeg) - (1 : Int32)).toInt64) σ).bind fun v12 => if v12 = 0 ∨ v12 = 1 then some v12 else none
set_option maxRecDepth 100000 in
set_option maxHeartbeats 4000000 in
theorem mX12_isScan {l : Launch} {E : Ev} {b : Nat} (x1 : Int32) (σ : Mem) (r : Int32) (h : fX12_isScan x1 σ = some r) : Met l yX12_isScan (tw yX12_isScan cX12_isScan 2 (some .boolean)) { frames := 1, cells := 0, slots := 0, locals := 25 } (va_Pc [.ref (b + 0), .int x1] (Pr l E (LM E b) σ)) (Qz E (LM E b) (some (.int r)) σ) 0 0 (La (LM E b)) := by
  refine ct_of (by decide) (Nat.le_of_ble_eq_true rfl) ?_
  intro p e s m below meth c C hW hS ls hl
  have hx0 := C.1
  have hb := C.2.1
  have hl : lv_has ls 2 [(0, .ref (b + 0)), (1, .int x1)] := hl
  unfold fX12_isScan at h
  refine lv_iload_n hx0 hb dX12_isScan_0 rfl (lv_at hl 1 rfl) ?_
  refine lv_i2l hx0 hb dX12_isScan_1 rfl ?_
  refine lv_lconst (v := (0 : Int64)) hx0 hb dX12_isScan_2 (by decide) ?_
  refine lv_aload_n hx0 hb dX12_isScan_3 rfl (lv_at hl 0 rfl) ?_
  refine gtX12_5 C hW flX12_20 dX12_isScan_4 ?_
  refine lv_iconst (v := (2 : Int32)) hx0 hb dX12_isScan_7 (by decide) ?_
  by_cases z8 : (2 : Int32) < 0 ∨ lm 3 ≤ (2 : Int32).toNatClampNeg
  · rw [if_pos z8] at h; cases h
  rw [if_neg z8] at h
  refine ldIm (k := 3) C hW (by decide) z8 dX12_isScan_8 ?_
  refine lv_iconst (v := (1 : Int32)) hx0 hb dX12_isScan_9 (by decide) ?_
  refine lv_isub hx0 hb dX12_isScan_10 ?_
  refine lv_i2l hx0 hb dX12_isScan_11 rfl ?_
  obtain ⟨v12, h12, h⟩ := bnd h
  try dsimp only at h
  refine w_callS (L := (LM E b)) (As := [.long x1.toInt64, .long (0 : Int64), .long (((σ 3 (2 : Int32).toNatClampNeg) - (1 : Int32)).toInt64)]) (rest := []) C hW hS (mX12_isIn x1.toInt64 (0 : Int64) (((σ 3 (2 : Int32).toNatClampNeg) - (1 : Int32)).toInt64)  σ v12 h12) cwX12_isIn csX12_isIn mlX12_101 ⟨by decide, by decide⟩ rfl hl.1 (Nat.le_of_ble_eq_true rfl) ⟨by decide, by decide⟩ dX12_isScan_12 rfl (fun H locs hW hS => ?_)
  by_cases z15 : v12 = 0 ∨ v12 = 1
  case neg => rw [if_neg z15] at h; cases h
  rw [if_pos z15] at h
  cases h
  exact w_zret C hW hS z15 dX12_isScan_15
def fX12_laysShown_j90 (x3 : Int32) (s1 : Int32) (s2 : Int32) (σ : Mem) : Option (Mem) :=
  if s1 < 0 ∨ lm 12 ≤ s1.toNatClampNeg then none else if x3 = (-1 : Int32) then (if (1 : Int32) < 0 ∨ lm 12 ≤ (1 : Int32).toNatClampNeg then none else some (up (up σ 12 s1.toNatClampNeg s2) 12 (1 : Int32).toNatClampNeg (-1 : Int32))) else ((fX12_placeOfLeaf x3 (0 : Int32) (up σ 12 s1.toNatClampNeg s2)).bind fun v108 => if (1 : Int32) < 0 ∨ lm 12 ≤ (1 : Int32).toNatClampNeg then none else some (up (up σ 12 s1.toNatClampNeg s2) 12 (1 : Int32).toNatClampNeg v108))
set_option maxRecDepth 100000 in
set_option maxHeartbeats 4000000 in
theorem bX12_laysShown_j90 {p : Program} {l : Launch} {e : Env} {s : State} {m : MethodId} {args : Array Value} {below : List Frame} {meth : Method} {c : Code} {E : Ev} {b : Nat} (C : Cx p l s m args meth c E cX12_laysShown 4 RX12 none) (x3 : Int32) (s1 : Int32) (s2 : Int32) {r : Mem} (σ : Mem) (h : fX12_laysShown_j90 x3 s1 s2 σ = some r) (H : Heap) (locs : List Loc) (ls : Array Slot) (hW : Wd E (LM E b) σ H) (hS : va_S (La (LM E b)) s.heap H locs) (hl : lv_has ls 4 [(0, .ref (b + 0)), (3, .int x3)]) : W p l e { frames := 1, cells := 0, slots := 0, locals := 23 } s m args below meth c H locs 0 0 (MQ below (Qz E (LM E b) none r) args s 0 0 (La (LM E b))) (F0 m 90 ls [.int s2, .int s1, .ref (b + 12)]) := by
  have hx0 := C.1
  have hb := C.2.1
  unfold fX12_laysShown_j90 at h
  by_cases z90 : s1 < 0 ∨ lm 12 ≤ s1.toNatClampNeg
  · rw [if_pos z90] at h; cases h
  rw [if_neg z90] at h
  refine saIm (k := 12) C hW hS (by decide) z90 dX12_laysShown_90 (fun H locs hW hS => ?_)
  refine lv_aload_n hx0 hb dX12_laysShown_91 rfl (lv_at hl 0 rfl) ?_
  refine gtX12_23 C hW flX12_48 dX12_laysShown_92 ?_
  refine lv_iconst (v := (1 : Int32)) hx0 hb dX12_laysShown_95 (by decide) ?_
  refine lv_iload_n hx0 hb dX12_laysShown_96 rfl (lv_at hl 1 rfl) ?_
  refine lv_iconst (v := (-1 : Int32)) hx0 hb dX12_laysShown_97 (by decide) ?_
  refine lv_icmp_ne (tgt := 105) hx0 hb dX12_laysShown_98 (by decide) (fun c98 => ?_) (fun c98 => ?_)
  · rw [if_neg c98] at h
    refine lv_aload_n hx0 hb dX12_laysShown_105 rfl (lv_at hl 0 rfl) ?_
    refine lv_iload_n hx0 hb dX12_laysShown_106 rfl (lv_at hl 1 rfl) ?_
    refine lv_iconst (v := (0 : Int32)) hx0 hb dX12_laysShown_107 (by decide) ?_
    obtain ⟨v108, h108, h⟩ := bnd h
    try dsimp only at h
    refine w_callV (L := (LM E b)) (k := 0) (As := [.int x3, .int (0 : Int32)]) (rest := [.int (1 : Int32), .ref (b + 12)]) C hW hS (show 0 < 18 by decide) cm0 kcX12 (mX12_placeOfLeaf x3 (0 : Int32)  (up σ 12 s1.toNatClampNeg s2) v108 h108) cwX12_placeOfLeaf cvX12_placeOfLeaf rfl mlX12_269 ⟨by decide, by decide⟩ rfl hl.1 (Nat.le_of_ble_eq_true rfl) ⟨by decide, by decide⟩ dX12_laysShown_108 rfl (fun H locs hW hS => ?_)
    by_cases z111 : (1 : Int32) < 0 ∨ lm 12 ≤ (1 : Int32).toNatClampNeg
    · rw [if_pos z111] at h; cases h
    rw [if_neg z111] at h
    refine saIm (k := 12) C hW hS (by decide) z111 dX12_laysShown_111 (fun H locs hW hS => ?_)
    cases h
    exact w_vret C hW hS dX12_laysShown_112
  · rw [if_pos c98] at h
    refine lv_iconst (v := (-1 : Int32)) hx0 hb dX12_laysShown_101 (by decide) ?_
    refine lv_goto (tgt := 111) hx0 hb dX12_laysShown_102 (by decide) ?_
    by_cases z111 : (1 : Int32) < 0 ∨ lm 12 ≤ (1 : Int32).toNatClampNeg
    · rw [if_pos z111] at h; cases h
    rw [if_neg z111] at h
    refine saIm (k := 12) C hW hS (by decide) z111 dX12_laysShown_111 (fun H locs hW hS => ?_)
    cases h
    exact w_vret C hW hS dX12_laysShown_112
def fX12_laysShown (x1 : Int32) (σ : Mem) : Option Mem :=
  (fX12_ofScan x1 (1 : Int32) σ).bind fun v3 => (fX12_ofScan x1 (2 : Int32) σ).bind fun v10 => if (1 : Int32) < 0 ∨ lm 12 ≤ (1 : Int32).toNatClampNeg then none else (fX12_ofScan x1 (0 : Int32) (up σ 12 (1 : Int32).toNatClampNeg (-1 : Int32))).bind fun v24 => if v24 = 0 then ((fX12_placeOfLeaf v3 v10 (up σ 12 (1 : Int32).toNatClampNeg (-1 : Int32))).bind fun v38 => if (0 : Int32) < 0 ∨ lm 12 ≤ (0 : Int32).toNatClampNeg then none else some (up (up σ 12 (1 : Int32).toNatClampNeg (-1 : Int32)) 12 (0 : Int32).toNatClampNeg v38)) else ((fX12_ofScan x1 (0 : Int32) (up σ 12 (1 : Int32).toNatClampNeg (-1 : Int32))).bind fun v48 => if v48 = (2 : Int32) then ((fX12_placeOfSlip v3 v10 (up σ 12 (1 : Int32).toNatClampNeg (-1 : Int32))).bind fun v63 => if (0 : Int32) < 0 ∨ lm 12 ≤ (0 : Int32).toNatClampNeg then none else some (up (up σ 12 (1 : Int32).toNatClampNeg (-1 : Int32)) 12 (0 : Int32).toNatClampNeg v63)) else (if v3 = (-1 : Int32) then (fX12_laysShown_j90 v10 (0 : Int32) (-1 : Int32) (up σ 12 (1 : Int32).toNatClampNeg (-1 : Int32))) else ((fX12_placeOfLeaf v3 (1 : Int32) (up σ 12 (1 : Int32).toNatClampNeg (-1 : Int32))).bind fun v87 => fX12_laysShown_j90 v10 (0 : Int32) v87 (up σ 12 (1 : Int32).toNatClampNeg (-1 : Int32)))))
set_option maxRecDepth 100000 in
set_option maxHeartbeats 4000000 in
theorem mX12_laysShown {l : Launch} {E : Ev} {b : Nat} (x1 : Int32) (σ : Mem) (r : Mem) (h : fX12_laysShown x1 σ = some r) : Met l yX12_laysShown (tw yX12_laysShown cX12_laysShown 4 none) { frames := 1, cells := 0, slots := 0, locals := 23 } (va_Pc [.ref (b + 0), .int x1] (Pr l E (LM E b) σ)) (Qz E (LM E b) none r) 0 0 (La (LM E b)) := by
  refine ct_of (by decide) (Nat.le_of_ble_eq_true rfl) ?_
  intro p e s m below meth c C hW hS ls hl
  have hx0 := C.1
  have hb := C.2.1
  have hl : lv_has ls 4 [(0, .ref (b + 0)), (1, .int x1)] := hl
  unfold fX12_laysShown at h
  refine lv_aload_n hx0 hb dX12_laysShown_0 rfl (lv_at hl 0 rfl) ?_
  refine lv_iload_n hx0 hb dX12_laysShown_1 rfl (lv_at hl 1 rfl) ?_
  refine lv_iconst (v := (1 : Int32)) hx0 hb dX12_laysShown_2 (by decide) ?_
  obtain ⟨v3, h3, h⟩ := bnd h
  try dsimp only at h
  refine w_callV (L := (LM E b)) (k := 0) (As := [.int x1, .int (1 : Int32)]) (rest := []) C hW hS (show 0 < 18 by decide) cm0 kcX12 (mX12_ofScan x1 (1 : Int32)  σ v3 h3) cwX12_ofScan cvX12_ofScan rfl mlX12_266 ⟨by decide, by decide⟩ rfl hl.1 (Nat.le_of_ble_eq_true rfl) ⟨by decide, by decide⟩ dX12_laysShown_3 rfl (fun H locs hW hS => ?_)
  refine lv_istore_n (lv' := [(2, .int v3), (0, .ref (b + 0)), (1, .int x1)]) hx0 hb dX12_laysShown_6 rfl hl (by decide) rfl (fun ls hl => ?_)
  refine lv_aload_n hx0 hb dX12_laysShown_7 rfl (lv_at hl 1 rfl) ?_
  refine lv_iload_n hx0 hb dX12_laysShown_8 rfl (lv_at hl 2 rfl) ?_
  refine lv_iconst (v := (2 : Int32)) hx0 hb dX12_laysShown_9 (by decide) ?_
  obtain ⟨v10, h10, h⟩ := bnd h
  try dsimp only at h
  refine w_callV (L := (LM E b)) (k := 0) (As := [.int x1, .int (2 : Int32)]) (rest := []) C hW hS (show 0 < 18 by decide) cm0 kcX12 (mX12_ofScan x1 (2 : Int32)  σ v10 h10) cwX12_ofScan cvX12_ofScan rfl mlX12_266 ⟨by decide, by decide⟩ rfl hl.1 (Nat.le_of_ble_eq_true rfl) ⟨by decide, by decide⟩ dX12_laysShown_10 rfl (fun H locs hW hS => ?_)
  refine lv_istore_n (lv' := [(3, .int v10), (2, .int v3), (0, .ref (b + 0)), (1, .int x1)]) hx0 hb dX12_laysShown_13 rfl hl (by decide) rfl (fun ls hl => ?_)
  refine lv_aload_n hx0 hb dX12_laysShown_14 rfl (lv_at hl 2 rfl) ?_
  refine gtX12_23 C hW flX12_48 dX12_laysShown_15 ?_
  refine lv_iconst (v := (1 : Int32)) hx0 hb dX12_laysShown_18 (by decide) ?_
  refine lv_iconst (v := (-1 : Int32)) hx0 hb dX12_laysShown_19 (by decide) ?_
  by_cases z20 : (1 : Int32) < 0 ∨ lm 12 ≤ (1 : Int32).toNatClampNeg
  · rw [if_pos z20] at h; cases h
  rw [if_neg z20] at h
  refine saIm (k := 12) C hW hS (by decide) z20 dX12_laysShown_20 (fun H locs hW hS => ?_)
  refine lv_aload_n hx0 hb dX12_laysShown_21 rfl (lv_at hl 2 rfl) ?_
  refine lv_iload_n hx0 hb dX12_laysShown_22 rfl (lv_at hl 3 rfl) ?_
  refine lv_iconst (v := (0 : Int32)) hx0 hb dX12_laysShown_23 (by decide) ?_
  obtain ⟨v24, h24, h⟩ := bnd h
  try dsimp only at h
  refine w_callV (L := (LM E b)) (k := 0) (As := [.int x1, .int (0 : Int32)]) (rest := []) C hW hS (show 0 < 18 by decide) cm0 kcX12 (mX12_ofScan x1 (0 : Int32)  (up σ 12 (1 : Int32).toNatClampNeg (-1 : Int32)) v24 h24) cwX12_ofScan cvX12_ofScan rfl mlX12_266 ⟨by decide, by decide⟩ rfl hl.1 (Nat.le_of_ble_eq_true rfl) ⟨by decide, by decide⟩ dX12_laysShown_24 rfl (fun H locs hW hS => ?_)
  refine lv_if_ne (tgt := 45) hx0 hb dX12_laysShown_27 (by decide) (fun c27 => ?_) (fun c27 => ?_)
  · rw [if_neg c27] at h
    refine lv_aload_n hx0 hb dX12_laysShown_45 rfl (lv_at hl 2 rfl) ?_
    refine lv_iload_n hx0 hb dX12_laysShown_46 rfl (lv_at hl 3 rfl) ?_
    refine lv_iconst (v := (0 : Int32)) hx0 hb dX12_laysShown_47 (by decide) ?_
    obtain ⟨v48, h48, h⟩ := bnd h
    try dsimp only at h
    refine w_callV (L := (LM E b)) (k := 0) (As := [.int x1, .int (0 : Int32)]) (rest := []) C hW hS (show 0 < 18 by decide) cm0 kcX12 (mX12_ofScan x1 (0 : Int32)  (up σ 12 (1 : Int32).toNatClampNeg (-1 : Int32)) v48 h48) cwX12_ofScan cvX12_ofScan rfl mlX12_266 ⟨by decide, by decide⟩ rfl hl.1 (Nat.le_of_ble_eq_true rfl) ⟨by decide, by decide⟩ dX12_laysShown_48 rfl (fun H locs hW hS => ?_)
    refine lv_iconst (v := (2 : Int32)) hx0 hb dX12_laysShown_51 (by decide) ?_
    refine lv_icmp_ne (tgt := 70) hx0 hb dX12_laysShown_52 (by decide) (fun c52 => ?_) (fun c52 => ?_)
    · rw [if_neg c52] at h
      refine lv_aload_n hx0 hb dX12_laysShown_70 rfl (lv_at hl 2 rfl) ?_
      refine gtX12_23 C hW flX12_48 dX12_laysShown_71 ?_
      refine lv_iconst (v := (0 : Int32)) hx0 hb dX12_laysShown_74 (by decide) ?_
      refine lv_iload_n hx0 hb dX12_laysShown_75 rfl (lv_at hl 1 rfl) ?_
      refine lv_iconst (v := (-1 : Int32)) hx0 hb dX12_laysShown_76 (by decide) ?_
      refine lv_icmp_ne (tgt := 84) hx0 hb dX12_laysShown_77 (by decide) (fun c77 => ?_) (fun c77 => ?_)
      · rw [if_neg c77] at h
        refine lv_aload_n hx0 hb dX12_laysShown_84 rfl (lv_at hl 2 rfl) ?_
        refine lv_iload_n hx0 hb dX12_laysShown_85 rfl (lv_at hl 1 rfl) ?_
        refine lv_iconst (v := (1 : Int32)) hx0 hb dX12_laysShown_86 (by decide) ?_
        obtain ⟨v87, h87, h⟩ := bnd h
        try dsimp only at h
        refine w_callV (L := (LM E b)) (k := 0) (As := [.int v3, .int (1 : Int32)]) (rest := [.int (0 : Int32), .ref (b + 12)]) C hW hS (show 0 < 18 by decide) cm0 kcX12 (mX12_placeOfLeaf v3 (1 : Int32)  (up σ 12 (1 : Int32).toNatClampNeg (-1 : Int32)) v87 h87) cwX12_placeOfLeaf cvX12_placeOfLeaf rfl mlX12_269 ⟨by decide, by decide⟩ rfl hl.1 (Nat.le_of_ble_eq_true rfl) ⟨by decide, by decide⟩ dX12_laysShown_87 rfl (fun H locs hW hS => ?_)
        exact bX12_laysShown_j90 C v10 (0 : Int32) v87 (up σ 12 (1 : Int32).toNatClampNeg (-1 : Int32)) h _ _ _ hW hS (lv_sub hl [2, 0] rfl)
      · rw [if_pos c77] at h
        refine lv_iconst (v := (-1 : Int32)) hx0 hb dX12_laysShown_80 (by decide) ?_
        refine lv_goto (tgt := 90) hx0 hb dX12_laysShown_81 (by decide) ?_
        exact bX12_laysShown_j90 C v10 (0 : Int32) (-1 : Int32) (up σ 12 (1 : Int32).toNatClampNeg (-1 : Int32)) h _ _ _ hW hS (lv_sub hl [2, 0] rfl)
    · rw [if_pos c52] at h
      refine lv_aload_n hx0 hb dX12_laysShown_55 rfl (lv_at hl 2 rfl) ?_
      refine gtX12_23 C hW flX12_48 dX12_laysShown_56 ?_
      refine lv_iconst (v := (0 : Int32)) hx0 hb dX12_laysShown_59 (by decide) ?_
      refine lv_aload_n hx0 hb dX12_laysShown_60 rfl (lv_at hl 2 rfl) ?_
      refine lv_iload_n hx0 hb dX12_laysShown_61 rfl (lv_at hl 1 rfl) ?_
      refine lv_iload_n hx0 hb dX12_laysShown_62 rfl (lv_at hl 0 rfl) ?_
      obtain ⟨v63, h63, h⟩ := bnd h
      try dsimp only at h
      refine w_callV (L := (LM E b)) (k := 0) (As := [.int v3, .int v10]) (rest := [.int (0 : Int32), .ref (b + 12)]) C hW hS (show 0 < 18 by decide) cm0 kcX12 (mX12_placeOfSlip v3 v10  (up σ 12 (1 : Int32).toNatClampNeg (-1 : Int32)) v63 h63) cwX12_placeOfSlip cvX12_placeOfSlip rfl mlX12_272 ⟨by decide, by decide⟩ rfl hl.1 (Nat.le_of_ble_eq_true rfl) ⟨by decide, by decide⟩ dX12_laysShown_63 rfl (fun H locs hW hS => ?_)
      by_cases z66 : (0 : Int32) < 0 ∨ lm 12 ≤ (0 : Int32).toNatClampNeg
      · rw [if_pos z66] at h; cases h
      rw [if_neg z66] at h
      refine saIm (k := 12) C hW hS (by decide) z66 dX12_laysShown_66 (fun H locs hW hS => ?_)
      refine lv_goto (tgt := 112) hx0 hb dX12_laysShown_67 (by decide) ?_
      cases h
      exact w_vret C hW hS dX12_laysShown_112
  · rw [if_pos c27] at h
    refine lv_aload_n hx0 hb dX12_laysShown_30 rfl (lv_at hl 2 rfl) ?_
    refine gtX12_23 C hW flX12_48 dX12_laysShown_31 ?_
    refine lv_iconst (v := (0 : Int32)) hx0 hb dX12_laysShown_34 (by decide) ?_
    refine lv_aload_n hx0 hb dX12_laysShown_35 rfl (lv_at hl 2 rfl) ?_
    refine lv_iload_n hx0 hb dX12_laysShown_36 rfl (lv_at hl 1 rfl) ?_
    refine lv_iload_n hx0 hb dX12_laysShown_37 rfl (lv_at hl 0 rfl) ?_
    obtain ⟨v38, h38, h⟩ := bnd h
    try dsimp only at h
    refine w_callV (L := (LM E b)) (k := 0) (As := [.int v3, .int v10]) (rest := [.int (0 : Int32), .ref (b + 12)]) C hW hS (show 0 < 18 by decide) cm0 kcX12 (mX12_placeOfLeaf v3 v10  (up σ 12 (1 : Int32).toNatClampNeg (-1 : Int32)) v38 h38) cwX12_placeOfLeaf cvX12_placeOfLeaf rfl mlX12_269 ⟨by decide, by decide⟩ rfl hl.1 (Nat.le_of_ble_eq_true rfl) ⟨by decide, by decide⟩ dX12_laysShown_38 rfl (fun H locs hW hS => ?_)
    by_cases z41 : (0 : Int32) < 0 ∨ lm 12 ≤ (0 : Int32).toNatClampNeg
    · rw [if_pos z41] at h; cases h
    rw [if_neg z41] at h
    refine saIm (k := 12) C hW hS (by decide) z41 dX12_laysShown_41 (fun H locs hW hS => ?_)
    refine lv_goto (tgt := 112) hx0 hb dX12_laysShown_42 (by decide) ?_
    cases h
    exact w_vret C hW hS dX12_laysShown_112
def fX12_placeOfScan (x1 : Int32) (σ : Mem) : Option (Int32 × Mem) :=
  (fX12_laysShown x1 σ).bind fun v2 => if (0 : Int32) < 0 ∨ lm 12 ≤ (0 : Int32).toNatClampNeg then none else if (v2 12 (0 : Int32).toNatClampNeg) = (-1 : Int32) then (if (0 : Int32) < 0 ∨ lm 12 ≤ (0 : Int32).toNatClampNeg then none else if (1 : Int32) < 0 ∨ lm 12 ≤ (1 : Int32).toNatClampNeg then none else some (if (v2 12 (0 : Int32).toNatClampNeg) < (v2 12 (1 : Int32).toNatClampNeg) then (v2 12 (1 : Int32).toNatClampNeg) else (v2 12 (0 : Int32).toNatClampNeg), v2)) else (if (1 : Int32) < 0 ∨ lm 12 ≤ (1 : Int32).toNatClampNeg then none else if (v2 12 (1 : Int32).toNatClampNeg) = (-1 : Int32) then (if (0 : Int32) < 0 ∨ lm 12 ≤ (0 : Int32).toNatClampNeg then none else if (1 : Int32) < 0 ∨ lm 12 ≤ (1 : Int32).toNatClampNeg then none else some (if (v2 12 (0 : Int32).toNatClampNeg) < (v2 12 (1 : Int32).toNatClampNeg) then (v2 12 (1 : Int32).toNatClampNeg) else (v2 12 (0 : Int32).toNatClampNeg), v2)) else (if (0 : Int32) < 0 ∨ lm 12 ≤ (0 : Int32).toNatClampNeg then none else if (1 : Int32) < 0 ∨ lm 12 ≤ (1 : Int32).toNatClampNeg then none else some (if (v2 12 (1 : Int32).toNatClampNeg) < (v2 12 (0 : Int32).toNatClampNeg) then (v2 12 (1 : Int32).toNatClampNeg) else (v2 12 (0 : Int32).toNatClampNeg), v2)))
set_option maxRecDepth 100000 in
set_option maxHeartbeats 4000000 in
theorem mX12_placeOfScan {l : Launch} {E : Ev} {b : Nat} (x1 : Int32) (σ : Mem) (r : (Int32 × Mem)) (h : fX12_placeOfScan x1 σ = some r) : Met l yX12_placeOfScan (tw yX12_placeOfScan cX12_placeOfScan 2 (some .int)) { frames := 2, cells := 0, slots := 0, locals := 46 } (va_Pc [.ref (b + 0), .int x1] (Pr l E (LM E b) σ)) (Qz E (LM E b) (some (.int r.1)) r.2) 0 0 (La (LM E b)) := by
  refine ct_of (by decide) (Nat.le_of_ble_eq_true rfl) ?_
  intro p e s m below meth c C hW hS ls hl
  have hx0 := C.1
  have hb := C.2.1
  have hl : lv_has ls 2 [(0, .ref (b + 0)), (1, .int x1)] := hl
  unfold fX12_placeOfScan at h
  refine lv_aload_n hx0 hb dX12_placeOfScan_0 rfl (lv_at hl 0 rfl) ?_
  refine lv_iload_n hx0 hb dX12_placeOfScan_1 rfl (lv_at hl 1 rfl) ?_
  obtain ⟨v2, h2, h⟩ := bnd h
  try dsimp only at h
  refine w_callV (L := (LM E b)) (k := 0) (As := [.int x1]) (rest := []) C hW hS (show 0 < 18 by decide) cm0 kcX12 (mX12_laysShown x1  σ v2 h2) cwX12_laysShown cvX12_laysShown rfl mlX12_275 ⟨by decide, by decide⟩ rfl hl.1 (Nat.le_of_ble_eq_true rfl) ⟨by decide, by decide⟩ dX12_placeOfScan_2 rfl (fun H locs hW hS => ?_)
  refine lv_aload_n hx0 hb dX12_placeOfScan_5 rfl (lv_at hl 0 rfl) ?_
  refine gtX12_23 C hW flX12_48 dX12_placeOfScan_6 ?_
  refine lv_iconst (v := (0 : Int32)) hx0 hb dX12_placeOfScan_9 (by decide) ?_
  by_cases z10 : (0 : Int32) < 0 ∨ lm 12 ≤ (0 : Int32).toNatClampNeg
  · rw [if_pos z10] at h; cases h
  rw [if_neg z10] at h
  refine ldIm (k := 12) C hW (by decide) z10 dX12_placeOfScan_10 ?_
  refine lv_iconst (v := (-1 : Int32)) hx0 hb dX12_placeOfScan_11 (by decide) ?_
  refine lv_icmp_eq (tgt := 25) hx0 hb dX12_placeOfScan_12 (by decide) (fun c12 => ?_) (fun c12 => ?_)
  · rw [if_pos c12] at h
    refine lv_aload_n hx0 hb dX12_placeOfScan_25 rfl (lv_at hl 0 rfl) ?_
    refine gtX12_23 C hW flX12_48 dX12_placeOfScan_26 ?_
    refine lv_iconst (v := (0 : Int32)) hx0 hb dX12_placeOfScan_29 (by decide) ?_
    by_cases z30 : (0 : Int32) < 0 ∨ lm 12 ≤ (0 : Int32).toNatClampNeg
    · rw [if_pos z30] at h; cases h
    rw [if_neg z30] at h
    refine ldIm (k := 12) C hW (by decide) z30 dX12_placeOfScan_30 ?_
    refine lv_aload_n hx0 hb dX12_placeOfScan_31 rfl (lv_at hl 0 rfl) ?_
    refine gtX12_23 C hW flX12_48 dX12_placeOfScan_32 ?_
    refine lv_iconst (v := (1 : Int32)) hx0 hb dX12_placeOfScan_35 (by decide) ?_
    by_cases z36 : (1 : Int32) < 0 ∨ lm 12 ≤ (1 : Int32).toNatClampNeg
    · rw [if_pos z36] at h; cases h
    rw [if_neg z36] at h
    refine ldIm (k := 12) C hW (by decide) z36 dX12_placeOfScan_36 ?_
    refine w_mmax C hl.1 mlX12_278 ⟨by decide, Nat.le_of_ble_eq_true rfl⟩ ⟨by decide, by decide⟩ dX12_placeOfScan_37 ?_
    cases h
    exact w_iret C hW hS dX12_placeOfScan_40
  · rw [if_neg c12] at h
    refine lv_aload_n hx0 hb dX12_placeOfScan_15 rfl (lv_at hl 0 rfl) ?_
    refine gtX12_23 C hW flX12_48 dX12_placeOfScan_16 ?_
    refine lv_iconst (v := (1 : Int32)) hx0 hb dX12_placeOfScan_19 (by decide) ?_
    by_cases z20 : (1 : Int32) < 0 ∨ lm 12 ≤ (1 : Int32).toNatClampNeg
    · rw [if_pos z20] at h; cases h
    rw [if_neg z20] at h
    refine ldIm (k := 12) C hW (by decide) z20 dX12_placeOfScan_20 ?_
    refine lv_iconst (v := (-1 : Int32)) hx0 hb dX12_placeOfScan_21 (by decide) ?_
    refine lv_icmp_ne (tgt := 41) hx0 hb dX12_placeOfScan_22 (by decide) (fun c22 => ?_) (fun c22 => ?_)
    · rw [if_neg c22] at h
      refine lv_aload_n hx0 hb dX12_placeOfScan_41 rfl (lv_at hl 0 rfl) ?_
      refine gtX12_23 C hW flX12_48 dX12_placeOfScan_42 ?_
      refine lv_iconst (v := (0 : Int32)) hx0 hb dX12_placeOfScan_45 (by decide) ?_
      by_cases z46 : (0 : Int32) < 0 ∨ lm 12 ≤ (0 : Int32).toNatClampNeg
      · rw [if_pos z46] at h; cases h
      rw [if_neg z46] at h
      refine ldIm (k := 12) C hW (by decide) z46 dX12_placeOfScan_46 ?_
      refine lv_aload_n hx0 hb dX12_placeOfScan_47 rfl (lv_at hl 0 rfl) ?_
      refine gtX12_23 C hW flX12_48 dX12_placeOfScan_48 ?_
      refine lv_iconst (v := (1 : Int32)) hx0 hb dX12_placeOfScan_51 (by decide) ?_
      by_cases z52 : (1 : Int32) < 0 ∨ lm 12 ≤ (1 : Int32).toNatClampNeg
      · rw [if_pos z52] at h; cases h
      rw [if_neg z52] at h
      refine ldIm (k := 12) C hW (by decide) z52 dX12_placeOfScan_52 ?_
      refine w_mmin C hl.1 mlX12_150 ⟨by decide, Nat.le_of_ble_eq_true rfl⟩ ⟨by decide, by decide⟩ dX12_placeOfScan_53 ?_
      cases h
      exact w_iret C hW hS dX12_placeOfScan_56
    · rw [if_pos c22] at h
      refine lv_aload_n hx0 hb dX12_placeOfScan_25 rfl (lv_at hl 0 rfl) ?_
      refine gtX12_23 C hW flX12_48 dX12_placeOfScan_26 ?_
      refine lv_iconst (v := (0 : Int32)) hx0 hb dX12_placeOfScan_29 (by decide) ?_
      by_cases z30 : (0 : Int32) < 0 ∨ lm 12 ≤ (0 : Int32).toNatClampNeg
      · rw [if_pos z30] at h; cases h
      rw [if_neg z30] at h
      refine ldIm (k := 12) C hW (by decide) z30 dX12_placeOfScan_30 ?_
      refine lv_aload_n hx0 hb dX12_placeOfScan_31 rfl (lv_at hl 0 rfl) ?_
      refine gtX12_23 C hW flX12_48 dX12_placeOfScan_32 ?_
      refine lv_iconst (v := (1 : Int32)) hx0 hb dX12_placeOfScan_35 (by decide) ?_
      by_cases z36 : (1 : Int32) < 0 ∨ lm 12 ≤ (1 : Int32).toNatClampNeg
      · rw [if_pos z36] at h; cases h
      rw [if_neg z36] at h
      refine ldIm (k := 12) C hW (by decide) z36 dX12_placeOfScan_36 ?_
      refine w_mmax C hl.1 mlX12_278 ⟨by decide, Nat.le_of_ble_eq_true rfl⟩ ⟨by decide, by decide⟩ dX12_placeOfScan_37 ?_
      cases h
      exact w_iret C hW hS dX12_placeOfScan_40
def fX12_isShown (x1 : Int32) (x2 : Int32) (σ : Mem) : Option (Int32 × Mem) :=
  (fX12_laysShown x1 σ).bind fun v2 => if (0 : Int32) < 0 ∨ lm 12 ≤ (0 : Int32).toNatClampNeg then none else if (v2 12 (0 : Int32).toNatClampNeg) = x2 then (some ((1 : Int32), v2)) else (if (1 : Int32) < 0 ∨ lm 12 ≤ (1 : Int32).toNatClampNeg then none else if (v2 12 (1 : Int32).toNatClampNeg) = x2 then (some ((1 : Int32), v2)) else (some ((0 : Int32), v2)))
set_option maxRecDepth 100000 in
set_option maxHeartbeats 4000000 in
theorem mX12_isShown {l : Launch} {E : Ev} {b : Nat} (x1 : Int32) (x2 : Int32) (σ : Mem) (r : (Int32 × Mem)) (h : fX12_isShown x1 x2 σ = some r) : Met l yX12_isShown (tw yX12_isShown cX12_isShown 3 (some .boolean)) { frames := 2, cells := 0, slots := 0, locals := 46 } (va_Pc [.ref (b + 0), .int x1, .int x2] (Pr l E (LM E b) σ)) (Qz E (LM E b) (some (.int r.1)) r.2) 0 0 (La (LM E b)) := by
  refine ct_of (by decide) (Nat.le_of_ble_eq_true rfl) ?_
  intro p e s m below meth c C hW hS ls hl
  have hx0 := C.1
  have hb := C.2.1
  have hl : lv_has ls 3 [(0, .ref (b + 0)), (1, .int x1), (2, .int x2)] := hl
  unfold fX12_isShown at h
  refine lv_aload_n hx0 hb dX12_isShown_0 rfl (lv_at hl 0 rfl) ?_
  refine lv_iload_n hx0 hb dX12_isShown_1 rfl (lv_at hl 1 rfl) ?_
  obtain ⟨v2, h2, h⟩ := bnd h
  try dsimp only at h
  refine w_callV (L := (LM E b)) (k := 0) (As := [.int x1]) (rest := []) C hW hS (show 0 < 18 by decide) cm0 kcX12 (mX12_laysShown x1  σ v2 h2) cwX12_laysShown cvX12_laysShown rfl mlX12_275 ⟨by decide, by decide⟩ rfl hl.1 (Nat.le_of_ble_eq_true rfl) ⟨by decide, by decide⟩ dX12_isShown_2 rfl (fun H locs hW hS => ?_)
  refine lv_aload_n hx0 hb dX12_isShown_5 rfl (lv_at hl 0 rfl) ?_
  refine gtX12_23 C hW flX12_48 dX12_isShown_6 ?_
  refine lv_iconst (v := (0 : Int32)) hx0 hb dX12_isShown_9 (by decide) ?_
  by_cases z10 : (0 : Int32) < 0 ∨ lm 12 ≤ (0 : Int32).toNatClampNeg
  · rw [if_pos z10] at h; cases h
  rw [if_neg z10] at h
  refine ldIm (k := 12) C hW (by decide) z10 dX12_isShown_10 ?_
  refine lv_iload_n hx0 hb dX12_isShown_11 rfl (lv_at hl 2 rfl) ?_
  refine lv_icmp_eq (tgt := 25) hx0 hb dX12_isShown_12 (by decide) (fun c12 => ?_) (fun c12 => ?_)
  · rw [if_pos c12] at h
    refine lv_iconst (v := (1 : Int32)) hx0 hb dX12_isShown_25 (by decide) ?_
    refine lv_goto (tgt := 30) hx0 hb dX12_isShown_26 (by decide) ?_
    cases h
    exact w_zret C hW hS (Or.inr rfl) dX12_isShown_30
  · rw [if_neg c12] at h
    refine lv_aload_n hx0 hb dX12_isShown_15 rfl (lv_at hl 0 rfl) ?_
    refine gtX12_23 C hW flX12_48 dX12_isShown_16 ?_
    refine lv_iconst (v := (1 : Int32)) hx0 hb dX12_isShown_19 (by decide) ?_
    by_cases z20 : (1 : Int32) < 0 ∨ lm 12 ≤ (1 : Int32).toNatClampNeg
    · rw [if_pos z20] at h; cases h
    rw [if_neg z20] at h
    refine ldIm (k := 12) C hW (by decide) z20 dX12_isShown_20 ?_
    refine lv_iload_n hx0 hb dX12_isShown_21 rfl (lv_at hl 2 rfl) ?_
    refine lv_icmp_ne (tgt := 29) hx0 hb dX12_isShown_22 (by decide) (fun c22 => ?_) (fun c22 => ?_)
    · rw [if_neg c22] at h
      refine lv_iconst (v := (0 : Int32)) hx0 hb dX12_isShown_29 (by decide) ?_
      cases h
      exact w_zret C hW hS (Or.inl rfl) dX12_isShown_30
    · rw [if_pos c22] at h
      refine lv_iconst (v := (1 : Int32)) hx0 hb dX12_isShown_25 (by decide) ?_
      refine lv_goto (tgt := 30) hx0 hb dX12_isShown_26 (by decide) ?_
      cases h
      exact w_zret C hW hS (Or.inr rfl) dX12_isShown_30
def fX12_showingOf_l4 (x1 : Int32) : Nat → Int32 → Int32 → Mem → Option (Int32 × Int32 × Mem)
  | 0, _, _, _ => none
  | n + 1, x2, x3, σ => if (2 : Int32) < 0 ∨ lm 3 ≤ (2 : Int32).toNatClampNeg then none else if (σ 3 (2 : Int32).toNatClampNeg) ≤ x3 then (some (x2, x3, σ)) else ((fX12_isShown x3 x1 σ).bind fun v18 => if v18.1 = 0 then (fX12_showingOf_l4 x1 n (x2 + (0 : Int32)) (x3 + (1 : Int32)) v18.2) else (fX12_showingOf_l4 x1 n (x2 + (1 : Int32)) (x3 + (1 : Int32)) v18.2))
set_option maxRecDepth 100000 in
set_option maxHeartbeats 4000000 in
theorem bX12_showingOf_l4 {p : Program} {l : Launch} {e : Env} {s : State} {m : MethodId} {args : Array Value} {below : List Frame} {meth : Method} {c : Code} {E : Ev} {b : Nat} (C : Cx p l s m args meth c E cX12_showingOf 4 RX12 (some .int)) (x1 : Int32) {Qf : State → Prop} {q : Int32 × Int32 × Mem} (hx : ∀ H locs ls, Wd E (LM E b) q.2.2 H → va_S (La (LM E b)) s.heap H locs → lv_has ls 4 [(0, .ref (b + 0)), (1, .int x1), (2, .int q.1), (3, .int q.2.1)] → W p l e { frames := 3, cells := 0, slots := 0, locals := 68 } s m args below meth c H locs 0 0 Qf (F0 m 37 ls [])) : ∀ (n : Nat) (x2 : Int32) (x3 : Int32) (σ : Mem), fX12_showingOf_l4 x1 n x2 x3 σ = some q → ∀ (H : Heap) (locs : List Loc) (ls : Array Slot), Wd E (LM E b) σ H → va_S (La (LM E b)) s.heap H locs → lv_has ls 4 [(0, .ref (b + 0)), (1, .int x1), (2, .int x2), (3, .int x3)] → W p l e { frames := 3, cells := 0, slots := 0, locals := 68 } s m args below meth c H locs 0 0 Qf (F0 m 4 ls []) := by
  have hx0 := C.1
  have hb := C.2.1
  intro n
  induction n with
  | zero => intro x2 x3 σ h; simp [fX12_showingOf_l4] at h
  | succ n ih =>
    intro x2 x3 σ h H locs ls hW hS hl
    unfold fX12_showingOf_l4 at h
    refine lv_iload_n hx0 hb dX12_showingOf_4 rfl (lv_at hl 3 rfl) ?_
    refine lv_aload_n hx0 hb dX12_showingOf_5 rfl (lv_at hl 0 rfl) ?_
    refine gtX12_5 C hW flX12_20 dX12_showingOf_6 ?_
    refine lv_iconst (v := (2 : Int32)) hx0 hb dX12_showingOf_9 (by decide) ?_
    by_cases z10 : (2 : Int32) < 0 ∨ lm 3 ≤ (2 : Int32).toNatClampNeg
    · rw [if_pos z10] at h; cases h
    rw [if_neg z10] at h
    refine ldIm (k := 3) C hW (by decide) z10 dX12_showingOf_10 ?_
    refine lv_icmp_ge (tgt := 37) hx0 hb dX12_showingOf_11 (by decide) (fun c11 => ?_) (fun c11 => ?_)
    · rw [if_pos c11] at h
      cases h
      exact hx _ _ _ hW hS (lv_sub hl [0, 1, 2, 3] rfl)
    · rw [if_neg c11] at h
      refine lv_iload_n hx0 hb dX12_showingOf_14 rfl (lv_at hl 2 rfl) ?_
      refine lv_aload_n hx0 hb dX12_showingOf_15 rfl (lv_at hl 0 rfl) ?_
      refine lv_iload_n hx0 hb dX12_showingOf_16 rfl (lv_at hl 3 rfl) ?_
      refine lv_iload_n hx0 hb dX12_showingOf_17 rfl (lv_at hl 1 rfl) ?_
      obtain ⟨v18, h18, h⟩ := bnd h
      try dsimp only at h
      refine w_callV (L := (LM E b)) (k := 0) (As := [.int x3, .int x1]) (rest := [.int x2]) C hW hS (show 0 < 18 by decide) cm0 kcX12 (mX12_isShown x3 x1  σ v18 h18) cwX12_isShown cvX12_isShown rfl mlX12_281 ⟨by decide, by decide⟩ rfl hl.1 (Nat.le_of_ble_eq_true rfl) ⟨by decide, by decide⟩ dX12_showingOf_18 rfl (fun H locs hW hS => ?_)
      refine lv_if_eq (tgt := 28) hx0 hb dX12_showingOf_21 (by decide) (fun c21 => ?_) (fun c21 => ?_)
      · rw [if_pos c21] at h
        refine lv_iconst (v := (0 : Int32)) hx0 hb dX12_showingOf_28 (by decide) ?_
        refine lv_iadd hx0 hb dX12_showingOf_29 ?_
        refine lv_istore_n (lv' := [(2, .int (x2 + (0 : Int32))), (0, .ref (b + 0)), (1, .int x1), (3, .int x3)]) hx0 hb dX12_showingOf_30 rfl hl (by decide) rfl (fun ls hl => ?_)
        refine lv_iinc (v := x3 + (1 : Int32)) (lv' := [(3, .int (x3 + (1 : Int32))), (2, .int (x2 + (0 : Int32))), (0, .ref (b + 0)), (1, .int x1)]) hx0 hb dX12_showingOf_31 hl (k := 3) rfl rfl (by decide) rfl (fun ls hl => ?_)
        refine lv_goto (tgt := 4) hx0 hb dX12_showingOf_34 (by decide) ?_
        exact ih (x2 + (0 : Int32)) (x3 + (1 : Int32)) v18.2 h _ _ _ hW hS (lv_sub hl [2, 3, 1, 0] rfl)
      · rw [if_neg c21] at h
        refine lv_iconst (v := (1 : Int32)) hx0 hb dX12_showingOf_24 (by decide) ?_
        refine lv_goto (tgt := 29) hx0 hb dX12_showingOf_25 (by decide) ?_
        refine lv_iadd hx0 hb dX12_showingOf_29 ?_
        refine lv_istore_n (lv' := [(2, .int (x2 + (1 : Int32))), (0, .ref (b + 0)), (1, .int x1), (3, .int x3)]) hx0 hb dX12_showingOf_30 rfl hl (by decide) rfl (fun ls hl => ?_)
        refine lv_iinc (v := x3 + (1 : Int32)) (lv' := [(3, .int (x3 + (1 : Int32))), (2, .int (x2 + (1 : Int32))), (0, .ref (b + 0)), (1, .int x1)]) hx0 hb dX12_showingOf_31 hl (k := 3) rfl rfl (by decide) rfl (fun ls hl => ?_)
        refine lv_goto (tgt := 4) hx0 hb dX12_showingOf_34 (by decide) ?_
        exact ih (x2 + (1 : Int32)) (x3 + (1 : Int32)) v18.2 h _ _ _ hW hS (lv_sub hl [2, 3, 1, 0] rfl)
def fX12_showingOf (x1 : Int32) (σ : Mem) : Option (Int32 × Mem) :=
  (fX12_showingOf_l4 x1 FU (0 : Int32) (0 : Int32) σ).bind fun q4 => some (q4.1, q4.2.2)
set_option maxRecDepth 100000 in
set_option maxHeartbeats 4000000 in
theorem mX12_showingOf {l : Launch} {E : Ev} {b : Nat} (x1 : Int32) (σ : Mem) (r : (Int32 × Mem)) (h : fX12_showingOf x1 σ = some r) : Met l yX12_showingOf (tw yX12_showingOf cX12_showingOf 4 (some .int)) { frames := 3, cells := 0, slots := 0, locals := 68 } (va_Pc [.ref (b + 0), .int x1] (Pr l E (LM E b) σ)) (Qz E (LM E b) (some (.int r.1)) r.2) 0 0 (La (LM E b)) := by
  refine ct_of (by decide) (Nat.le_of_ble_eq_true rfl) ?_
  intro p e s m below meth c C hW hS ls hl
  have hx0 := C.1
  have hb := C.2.1
  have hl : lv_has ls 4 [(0, .ref (b + 0)), (1, .int x1)] := hl
  unfold fX12_showingOf at h
  refine lv_iconst (v := (0 : Int32)) hx0 hb dX12_showingOf_0 (by decide) ?_
  refine lv_istore_n (lv' := [(2, .int (0 : Int32)), (0, .ref (b + 0)), (1, .int x1)]) hx0 hb dX12_showingOf_1 rfl hl (by decide) rfl (fun ls hl => ?_)
  refine lv_iconst (v := (0 : Int32)) hx0 hb dX12_showingOf_2 (by decide) ?_
  refine lv_istore_n (lv' := [(3, .int (0 : Int32)), (2, .int (0 : Int32)), (0, .ref (b + 0)), (1, .int x1)]) hx0 hb dX12_showingOf_3 rfl hl (by decide) rfl (fun ls hl => ?_)
  obtain ⟨q4, h4, h⟩ := bnd h
  try dsimp only at h
  refine bX12_showingOf_l4 C x1  (q := q4) ?_ FU (0 : Int32) (0 : Int32) σ h4 _ _ _ hW hS (lv_sub hl [2, 3, 1, 0] rfl)
  intro H locs ls hW hS hl
  refine lv_iload_n hx0 hb dX12_showingOf_37 rfl (lv_at hl 2 rfl) ?_
  cases h
  exact w_iret C hW hS dX12_showingOf_38
def fX12_adds (x1 : Int32) (x2 : Int32) (x3 : Int32) (σ : Mem) : Option (Int32 × Mem) :=
  (fX12_remembers σ).bind fun v1 => if (2 : Int32) < 0 ∨ lm 3 ≤ (2 : Int32).toNatClampNeg then none else if ((89 : Int32) + ((3 : Int32) * (v1 3 (2 : Int32).toNatClampNeg))) < 0 ∨ lm 3 ≤ ((89 : Int32) + ((3 : Int32) * (v1 3 (2 : Int32).toNatClampNeg))).toNatClampNeg then none else if (((89 : Int32) + ((3 : Int32) * (v1 3 (2 : Int32).toNatClampNeg))) + (1 : Int32)) < 0 ∨ lm 3 ≤ (((89 : Int32) + ((3 : Int32) * (v1 3 (2 : Int32).toNatClampNeg))) + (1 : Int32)).toNatClampNeg then none else if (((89 : Int32) + ((3 : Int32) * (v1 3 (2 : Int32).toNatClampNeg))) + (2 : Int32)) < 0 ∨ lm 3 ≤ (((89 : Int32) + ((3 : Int32) * (v1 3 (2 : Int32).toNatClampNeg))) + (2 : Int32)).toNatClampNeg then none else if (2 : Int32) < 0 ∨ lm 3 ≤ (2 : Int32).toNatClampNeg then none else if (2 : Int32) < 0 ∨ lm 3 ≤ (2 : Int32).toNatClampNeg then none else if (2 : Int32) < 0 ∨ lm 3 ≤ (2 : Int32).toNatClampNeg then none else some (((up (up (up (up v1 3 ((89 : Int32) + ((3 : Int32) * (v1 3 (2 : Int32).toNatClampNeg))).toNatClampNeg x1) 3 (((89 : Int32) + ((3 : Int32) * (v1 3 (2 : Int32).toNatClampNeg))) + (1 : Int32)).toNatClampNeg x2) 3 (((89 : Int32) + ((3 : Int32) * (v1 3 (2 : Int32).toNatClampNeg))) + (2 : Int32)).toNatClampNeg x3) 3 (2 : Int32).toNatClampNeg (((up (up (up v1 3 ((89 : Int32) + ((3 : Int32) * (v1 3 (2 : Int32).toNatClampNeg))).toNatClampNeg x1) 3 (((89 : Int32) + ((3 : Int32) * (v1 3 (2 : Int32).toNatClampNeg))) + (1 : Int32)).toNatClampNeg x2) 3 (((89 : Int32) + ((3 : Int32) * (v1 3 (2 : Int32).toNatClampNeg))) + (2 : Int32)).toNatClampNeg x3) 3 (2 : Int32).toNatClampNeg) + (1 : Int32))) 3 (2 : Int32).toNatClampNeg) - (1 : Int32), up (up (up (up v1 3 ((89 : Int32) + ((3 : Int32) * (v1 3 (2 : Int32).toNatClampNeg))).toNatClampNeg x1) 3 (((89 : Int32) + ((3 : Int32) * (v1 3 (2 : Int32).toNatClampNeg))) + (1 : Int32)).toNatClampNeg x2) 3 (((89 : Int32) + ((3 : Int32) * (v1 3 (2 : Int32).toNatClampNeg))) + (2 : Int32)).toNatClampNeg x3) 3 (2 : Int32).toNatClampNeg (((up (up (up v1 3 ((89 : Int32) + ((3 : Int32) * (v1 3 (2 : Int32).toNatClampNeg))).toNatClampNeg x1) 3 (((89 : Int32) + ((3 : Int32) * (v1 3 (2 : Int32).toNatClampNeg))) + (1 : Int32)).toNatClampNeg x2) 3 (((89 : Int32) + ((3 : Int32) * (v1 3 (2 : Int32).toNatClampNeg))) + (2 : Int32)).toNatClampNeg x3) 3 (2 : Int32).toNatClampNeg) + (1 : Int32)))
set_option maxRecDepth 100000 in
set_option maxHeartbeats 4000000 in
theorem mX12_adds {l : Launch} {E : Ev} {b : Nat} (x1 : Int32) (x2 : Int32) (x3 : Int32) (σ : Mem) (r : (Int32 × Mem)) (h : fX12_adds x1 x2 x3 σ = some r) : Met l yX12_adds (tw yX12_adds cX12_adds 5 (some .int)) { frames := 2, cells := 0, slots := 0, locals := 45 } (va_Pc [.ref (b + 0), .int x1, .int x2, .int x3] (Pr l E (LM E b) σ)) (Qz E (LM E b) (some (.int r.1)) r.2) 0 0 (La (LM E b)) := by
  refine ct_of (by decide) (Nat.le_of_ble_eq_true rfl) ?_
  intro p e s m below meth c C hW hS ls hl
  have hx0 := C.1
  have hb := C.2.1
  have hl : lv_has ls 5 [(0, .ref (b + 0)), (1, .int x1), (2, .int x2), (3, .int x3)] := hl
  unfold fX12_adds at h
  refine lv_aload_n hx0 hb dX12_adds_0 rfl (lv_at hl 0 rfl) ?_
  obtain ⟨v1, h1, h⟩ := bnd h
  try dsimp only at h
  refine w_callV (L := (LM E b)) (k := 0) (As := []) (rest := []) C hW hS (show 0 < 18 by decide) cm0 kcX12 (mX12_remembers   σ v1 h1) cwX12_remembers cvX12_remembers rfl mlX12_285 ⟨by decide, by decide⟩ rfl hl.1 (Nat.le_of_ble_eq_true rfl) ⟨by decide, by decide⟩ dX12_adds_1 rfl (fun H locs hW hS => ?_)
  refine lv_bipush (v := (89 : Int32)) hx0 hb dX12_adds_4 (by decide) ?_
  refine lv_iconst (v := (3 : Int32)) hx0 hb dX12_adds_6 (by decide) ?_
  refine lv_aload_n hx0 hb dX12_adds_7 rfl (lv_at hl 0 rfl) ?_
  refine gtX12_5 C hW flX12_20 dX12_adds_8 ?_
  refine lv_iconst (v := (2 : Int32)) hx0 hb dX12_adds_11 (by decide) ?_
  by_cases z12 : (2 : Int32) < 0 ∨ lm 3 ≤ (2 : Int32).toNatClampNeg
  · rw [if_pos z12] at h; cases h
  rw [if_neg z12] at h
  refine ldIm (k := 3) C hW (by decide) z12 dX12_adds_12 ?_
  refine lv_imul hx0 hb dX12_adds_13 ?_
  refine lv_iadd hx0 hb dX12_adds_14 ?_
  refine lv_istore (lv' := [(4, .int ((89 : Int32) + ((3 : Int32) * (v1 3 (2 : Int32).toNatClampNeg)))), (0, .ref (b + 0)), (1, .int x1), (2, .int x2), (3, .int x3)]) hx0 hb dX12_adds_15 hl (by decide) rfl (fun ls hl => ?_)
  refine lv_aload_n hx0 hb dX12_adds_17 rfl (lv_at hl 1 rfl) ?_
  refine gtX12_5 C hW flX12_20 dX12_adds_18 ?_
  refine lv_iload hx0 hb dX12_adds_21 (lv_at hl 0 rfl) ?_
  refine lv_iload_n hx0 hb dX12_adds_23 rfl (lv_at hl 2 rfl) ?_
  by_cases z24 : ((89 : Int32) + ((3 : Int32) * (v1 3 (2 : Int32).toNatClampNeg))) < 0 ∨ lm 3 ≤ ((89 : Int32) + ((3 : Int32) * (v1 3 (2 : Int32).toNatClampNeg))).toNatClampNeg
  · rw [if_pos z24] at h; cases h
  rw [if_neg z24] at h
  refine saIm (k := 3) C hW hS (by decide) z24 dX12_adds_24 (fun H locs hW hS => ?_)
  refine lv_aload_n hx0 hb dX12_adds_25 rfl (lv_at hl 1 rfl) ?_
  refine gtX12_5 C hW flX12_20 dX12_adds_26 ?_
  refine lv_iload hx0 hb dX12_adds_29 (lv_at hl 0 rfl) ?_
  refine lv_iconst (v := (1 : Int32)) hx0 hb dX12_adds_31 (by decide) ?_
  refine lv_iadd hx0 hb dX12_adds_32 ?_
  refine lv_iload_n hx0 hb dX12_adds_33 rfl (lv_at hl 3 rfl) ?_
  by_cases z34 : (((89 : Int32) + ((3 : Int32) * (v1 3 (2 : Int32).toNatClampNeg))) + (1 : Int32)) < 0 ∨ lm 3 ≤ (((89 : Int32) + ((3 : Int32) * (v1 3 (2 : Int32).toNatClampNeg))) + (1 : Int32)).toNatClampNeg
  · rw [if_pos z34] at h; cases h
  rw [if_neg z34] at h
  refine saIm (k := 3) C hW hS (by decide) z34 dX12_adds_34 (fun H locs hW hS => ?_)
  refine lv_aload_n hx0 hb dX12_adds_35 rfl (lv_at hl 1 rfl) ?_
  refine gtX12_5 C hW flX12_20 dX12_adds_36 ?_
  refine lv_iload hx0 hb dX12_adds_39 (lv_at hl 0 rfl) ?_
  refine lv_iconst (v := (2 : Int32)) hx0 hb dX12_adds_41 (by decide) ?_
  refine lv_iadd hx0 hb dX12_adds_42 ?_
  refine lv_iload_n hx0 hb dX12_adds_43 rfl (lv_at hl 4 rfl) ?_
  by_cases z44 : (((89 : Int32) + ((3 : Int32) * (v1 3 (2 : Int32).toNatClampNeg))) + (2 : Int32)) < 0 ∨ lm 3 ≤ (((89 : Int32) + ((3 : Int32) * (v1 3 (2 : Int32).toNatClampNeg))) + (2 : Int32)).toNatClampNeg
  · rw [if_pos z44] at h; cases h
  rw [if_neg z44] at h
  refine saIm (k := 3) C hW hS (by decide) z44 dX12_adds_44 (fun H locs hW hS => ?_)
  refine lv_aload_n hx0 hb dX12_adds_45 rfl (lv_at hl 1 rfl) ?_
  refine gtX12_5 C hW flX12_20 dX12_adds_46 ?_
  refine lv_iconst (v := (2 : Int32)) hx0 hb dX12_adds_49 (by decide) ?_
  refine lv_dup2_11 hx0 hb dX12_adds_50 rfl rfl ?_
  by_cases z51 : (2 : Int32) < 0 ∨ lm 3 ≤ (2 : Int32).toNatClampNeg
  · rw [if_pos z51] at h; cases h
  rw [if_neg z51] at h
  refine ldIm (k := 3) C hW (by decide) z51 dX12_adds_51 ?_
  refine lv_iconst (v := (1 : Int32)) hx0 hb dX12_adds_52 (by decide) ?_
  refine lv_iadd hx0 hb dX12_adds_53 ?_
  by_cases z54 : (2 : Int32) < 0 ∨ lm 3 ≤ (2 : Int32).toNatClampNeg
  · rw [if_pos z54] at h; cases h
  rw [if_neg z54] at h
  refine saIm (k := 3) C hW hS (by decide) z54 dX12_adds_54 (fun H locs hW hS => ?_)
  refine lv_aload_n hx0 hb dX12_adds_55 rfl (lv_at hl 1 rfl) ?_
  refine gtX12_5 C hW flX12_20 dX12_adds_56 ?_
  refine lv_iconst (v := (2 : Int32)) hx0 hb dX12_adds_59 (by decide) ?_
  by_cases z60 : (2 : Int32) < 0 ∨ lm 3 ≤ (2 : Int32).toNatClampNeg
  · rw [if_pos z60] at h; cases h
  rw [if_neg z60] at h
  refine ldIm (k := 3) C hW (by decide) z60 dX12_adds_60 ?_
  refine lv_iconst (v := (1 : Int32)) hx0 hb dX12_adds_61 (by decide) ?_
  refine lv_isub hx0 hb dX12_adds_62 ?_
  cases h
  exact w_iret C hW hS dX12_adds_63
def fX12_laysRow_l11 : Nat → Int32 → Mem → Option (Int32 × Mem)
  | 0, _, _ => none
  | n + 1, x1, σ => if (2 : Int32) < 0 ∨ lm 3 ≤ (2 : Int32).toNatClampNeg then none else if (σ 3 (2 : Int32).toNatClampNeg) ≤ x1 then (some (x1, σ)) else ((fX12_placeOfScan x1 σ).bind fun v23 => if v23.1 = (-1 : Int32) then (fX12_laysRow_l11 n (x1 + (1 : Int32)) v23.2) else (if (v23.2 0 26) < 0 ∨ lm 13 ≤ (v23.2 0 26).toNatClampNeg then none else fX12_laysRow_l11 n (x1 + (1 : Int32)) (up (up v23.2 13 (v23.2 0 26).toNatClampNeg v23.1) 0 26 (((up v23.2 13 (v23.2 0 26).toNatClampNeg v23.1) 0 26) + (1 : Int32)))))
set_option maxRecDepth 100000 in
set_option maxHeartbeats 4000000 in
theorem bX12_laysRow_l11 {p : Program} {l : Launch} {e : Env} {s : State} {m : MethodId} {args : Array Value} {below : List Frame} {meth : Method} {c : Code} {E : Ev} {b : Nat} (C : Cx p l s m args meth c E cX12_laysRow 3 RX12 none) {Qf : State → Prop} {q : Int32 × Mem} (hx : ∀ H locs ls, Wd E (LM E b) q.2 H → va_S (La (LM E b)) s.heap H locs → lv_has ls 3 [(0, .ref (b + 0)), (1, .int q.1)] → W p l e { frames := 3, cells := 0, slots := 0, locals := 68 } s m args below meth c H locs 0 0 Qf (F0 m 58 ls [])) : ∀ (n : Nat) (x1 : Int32) (σ : Mem), fX12_laysRow_l11 n x1 σ = some q → ∀ (H : Heap) (locs : List Loc) (ls : Array Slot), Wd E (LM E b) σ H → va_S (La (LM E b)) s.heap H locs → lv_has ls 3 [(0, .ref (b + 0)), (1, .int x1)] → W p l e { frames := 3, cells := 0, slots := 0, locals := 68 } s m args below meth c H locs 0 0 Qf (F0 m 11 ls []) := by
  have hx0 := C.1
  have hb := C.2.1
  intro n
  induction n with
  | zero => intro x1 σ h; simp [fX12_laysRow_l11] at h
  | succ n ih =>
    intro x1 σ h H locs ls hW hS hl
    unfold fX12_laysRow_l11 at h
    refine lv_iload_n hx0 hb dX12_laysRow_11 rfl (lv_at hl 1 rfl) ?_
    refine lv_aload_n hx0 hb dX12_laysRow_12 rfl (lv_at hl 0 rfl) ?_
    refine gtX12_5 C hW flX12_20 dX12_laysRow_13 ?_
    refine lv_iconst (v := (2 : Int32)) hx0 hb dX12_laysRow_16 (by decide) ?_
    by_cases z17 : (2 : Int32) < 0 ∨ lm 3 ≤ (2 : Int32).toNatClampNeg
    · rw [if_pos z17] at h; cases h
    rw [if_neg z17] at h
    refine ldIm (k := 3) C hW (by decide) z17 dX12_laysRow_17 ?_
    refine lv_icmp_ge (tgt := 58) hx0 hb dX12_laysRow_18 (by decide) (fun c18 => ?_) (fun c18 => ?_)
    · rw [if_pos c18] at h
      cases h
      exact hx _ _ _ hW hS (lv_sub hl [0, 1] rfl)
    · rw [if_neg c18] at h
      refine lv_aload_n hx0 hb dX12_laysRow_21 rfl (lv_at hl 0 rfl) ?_
      refine lv_iload_n hx0 hb dX12_laysRow_22 rfl (lv_at hl 1 rfl) ?_
      obtain ⟨v23, h23, h⟩ := bnd h
      try dsimp only at h
      refine w_callV (L := (LM E b)) (k := 0) (As := [.int x1]) (rest := []) C hW hS (show 0 < 18 by decide) cm0 kcX12 (mX12_placeOfScan x1  σ v23 h23) cwX12_placeOfScan cvX12_placeOfScan rfl mlX12_291 ⟨by decide, by decide⟩ rfl hl.1 (Nat.le_of_ble_eq_true rfl) ⟨by decide, by decide⟩ dX12_laysRow_23 rfl (fun H locs hW hS => ?_)
      refine lv_istore_n (lv' := [(2, .int v23.1), (0, .ref (b + 0)), (1, .int x1)]) hx0 hb dX12_laysRow_26 rfl hl (by decide) rfl (fun ls hl => ?_)
      refine lv_iload_n hx0 hb dX12_laysRow_27 rfl (lv_at hl 0 rfl) ?_
      refine lv_iconst (v := (-1 : Int32)) hx0 hb dX12_laysRow_28 (by decide) ?_
      refine lv_icmp_eq (tgt := 52) hx0 hb dX12_laysRow_29 (by decide) (fun c29 => ?_) (fun c29 => ?_)
      · rw [if_pos c29] at h
        refine lv_iinc (v := x1 + (1 : Int32)) (lv' := [(1, .int (x1 + (1 : Int32))), (2, .int v23.1), (0, .ref (b + 0))]) hx0 hb dX12_laysRow_52 hl (k := 2) rfl rfl (by decide) rfl (fun ls hl => ?_)
        refine lv_goto (tgt := 11) hx0 hb dX12_laysRow_55 (by decide) ?_
        exact ih (x1 + (1 : Int32)) v23.2 h _ _ _ hW hS (lv_sub hl [2, 0] rfl)
      · rw [if_neg c29] at h
        refine lv_aload_n hx0 hb dX12_laysRow_32 rfl (lv_at hl 1 rfl) ?_
        refine gtX12_24 C hW flX12_51 dX12_laysRow_33 ?_
        refine lv_aload_n hx0 hb dX12_laysRow_36 rfl (lv_at hl 1 rfl) ?_
        refine gtX12_26 C hW flX12_288 dX12_laysRow_37 ?_
        refine lv_iload_n hx0 hb dX12_laysRow_40 rfl (lv_at hl 0 rfl) ?_
        by_cases z41 : (v23.2 0 26) < 0 ∨ lm 13 ≤ (v23.2 0 26).toNatClampNeg
        · rw [if_pos z41] at h; cases h
        rw [if_neg z41] at h
        refine saIm (k := 13) C hW hS (by decide) z41 dX12_laysRow_41 (fun H locs hW hS => ?_)
        refine lv_aload_n hx0 hb dX12_laysRow_42 rfl (lv_at hl 1 rfl) ?_
        refine lv_dup hx0 hb dX12_laysRow_43 rfl ?_
        refine gtX12_26 C hW flX12_288 dX12_laysRow_44 ?_
        refine lv_iconst (v := (1 : Int32)) hx0 hb dX12_laysRow_47 (by decide) ?_
        refine lv_iadd hx0 hb dX12_laysRow_48 ?_
        refine ptX12_26 C hW hS flX12_288 dX12_laysRow_49 (fun H locs hW hS => ?_)
        refine lv_iinc (v := x1 + (1 : Int32)) (lv' := [(1, .int (x1 + (1 : Int32))), (2, .int v23.1), (0, .ref (b + 0))]) hx0 hb dX12_laysRow_52 hl (k := 2) rfl rfl (by decide) rfl (fun ls hl => ?_)
        refine lv_goto (tgt := 11) hx0 hb dX12_laysRow_55 (by decide) ?_
        exact ih (x1 + (1 : Int32)) (up (up v23.2 13 (v23.2 0 26).toNatClampNeg v23.1) 0 26 (((up v23.2 13 (v23.2 0 26).toNatClampNeg v23.1) 0 26) + (1 : Int32))) h _ _ _ hW hS (lv_sub hl [2, 0] rfl)
def fX12_laysRow (σ : Mem) : Option Mem :=
  (fX12_laysOrder σ).bind fun v1 => (fX12_laysRow_l11 FU (0 : Int32) (up v1 0 26 (0 : Int32))).bind fun q11 => some q11.2
set_option maxRecDepth 100000 in
set_option maxHeartbeats 4000000 in
theorem mX12_laysRow {l : Launch} {E : Ev} {b : Nat} (σ : Mem) (r : Mem) (h : fX12_laysRow σ = some r) : Met l yX12_laysRow (tw yX12_laysRow cX12_laysRow 3 none) { frames := 3, cells := 0, slots := 0, locals := 68 } (va_Pc [.ref (b + 0)] (Pr l E (LM E b) σ)) (Qz E (LM E b) none r) 0 0 (La (LM E b)) := by
  refine ct_of (by decide) (Nat.le_of_ble_eq_true rfl) ?_
  intro p e s m below meth c C hW hS ls hl
  have hx0 := C.1
  have hb := C.2.1
  have hl : lv_has ls 3 [(0, .ref (b + 0))] := hl
  unfold fX12_laysRow at h
  refine lv_aload_n hx0 hb dX12_laysRow_0 rfl (lv_at hl 0 rfl) ?_
  obtain ⟨v1, h1, h⟩ := bnd h
  try dsimp only at h
  refine w_callV (L := (LM E b)) (k := 0) (As := []) (rest := []) C hW hS (show 0 < 18 by decide) cm0 kcX12 (mX12_laysOrder   σ v1 h1) cwX12_laysOrder cvX12_laysOrder rfl mlX12_239 ⟨by decide, by decide⟩ rfl hl.1 (Nat.le_of_ble_eq_true rfl) ⟨by decide, by decide⟩ dX12_laysRow_1 rfl (fun H locs hW hS => ?_)
  refine lv_aload_n hx0 hb dX12_laysRow_4 rfl (lv_at hl 0 rfl) ?_
  refine lv_iconst (v := (0 : Int32)) hx0 hb dX12_laysRow_5 (by decide) ?_
  refine ptX12_26 C hW hS flX12_288 dX12_laysRow_6 (fun H locs hW hS => ?_)
  refine lv_iconst (v := (0 : Int32)) hx0 hb dX12_laysRow_9 (by decide) ?_
  refine lv_istore_n (lv' := [(1, .int (0 : Int32)), (0, .ref (b + 0))]) hx0 hb dX12_laysRow_10 rfl hl (by decide) rfl (fun ls hl => ?_)
  obtain ⟨q11, h11, h⟩ := bnd h
  try dsimp only at h
  refine bX12_laysRow_l11 C   (q := q11) ?_ FU (0 : Int32) (up v1 0 26 (0 : Int32)) h11 _ _ _ hW hS (lv_sub hl [1, 0] rfl)
  intro H locs ls hW hS hl
  cases h
  exact w_vret C hW hS dX12_laysRow_58
