/-! the reference, by program out of the bytecode -/
def fX12_findLabel_l31 : Nat → Int32 → Mem → Option ((Int32 × Mem) ⊕ (Int32 × Mem))
  | 0, _, _ => none
  | n + 1, x2, σ => if (σ 0 17) ≤ x2 then (some (.inr (x2, σ))) else ((fX12_isBuffer x2 σ).bind fun v41 => if v41.1 = 0 then (fX12_findLabel_l31 n (x2 + (1 : Int32)) v41.2) else (some (.inl (x2, v41.2))))
set_option maxRecDepth 100000 in
set_option maxHeartbeats 4000000 in
theorem bX12_findLabel_l31 {p : Program} {l : Launch} {e : Env} {s : State} {m : MethodId} {args : Array Value} {below : List Frame} {meth : Method} {c : Code} {E : Ev} {b : Nat} (C : Cx p l s m args meth c E cX12_findLabel 3 RX12 (some .int)) (r0 : (Int32 × Mem)) {q0 : (Int32 × Mem) ⊕ (Int32 × Mem)} (hr : ∀ r, q0 = .inl r → r = r0) (hx : ∀ q, q0 = .inr q → ∀ H locs ls, Wd E (LM E b) q.2 H → va_S (La (LM E b)) s.heap H locs → lv_has ls 3 [(0, .ref (b + 0)), (2, .int q.1)] → W p l e { frames := 8, cells := 0, slots := 0, locals := 257 } s m args below meth c H locs 0 0 (MQ below (Qz E (LM E b) (some (.int r0.1)) r0.2) args s 0 0 (La (LM E b))) (F0 m 55 ls [])) : ∀ (n : Nat) (x2 : Int32) (σ : Mem), fX12_findLabel_l31 n x2 σ = some q0 → ∀ (H : Heap) (locs : List Loc) (ls : Array Slot), Wd E (LM E b) σ H → va_S (La (LM E b)) s.heap H locs → lv_has ls 3 [(0, .ref (b + 0)), (2, .int x2)] → W p l e { frames := 8, cells := 0, slots := 0, locals := 257 } s m args below meth c H locs 0 0 (MQ below (Qz E (LM E b) (some (.int r0.1)) r0.2) args s 0 0 (La (LM E b))) (F0 m 31 ls []) := by
  have hx0 := C.1
  have hb := C.2.1
  intro n
  induction n with
  | zero => intro x2 σ h; simp [fX12_findLabel_l31] at h
  | succ n ih =>
    intro x2 σ h H locs ls hW hS hl
    unfold fX12_findLabel_l31 at h
    refine lv_iload_n hx0 hb dX12_findLabel_31 rfl (lv_at hl 1 rfl) ?_
    refine lv_aload_n hx0 hb dX12_findLabel_32 rfl (lv_at hl 0 rfl) ?_
    refine gtX12_17 C hW flX12_232 dX12_findLabel_33 ?_
    refine lv_icmp_ge (tgt := 55) hx0 hb dX12_findLabel_36 (by decide) (fun c36 => ?_) (fun c36 => ?_)
    · rw [if_pos c36] at h
      cases h
      exact hx _ rfl _ _ _ hW hS (lv_sub hl [0, 1] rfl)
    · rw [if_neg c36] at h
      refine lv_aload_n hx0 hb dX12_findLabel_39 rfl (lv_at hl 0 rfl) ?_
      refine lv_iload_n hx0 hb dX12_findLabel_40 rfl (lv_at hl 1 rfl) ?_
      obtain ⟨v41, h41, h⟩ := bnd h
      try dsimp only at h
      refine w_callV (L := (LM E b)) (k := 0) (As := [.int x2]) (rest := []) C hW hS (show 0 < 18 by decide) cm0 kcX12 (mX12_isBuffer x2  σ v41 h41) cwX12_isBuffer cvX12_isBuffer rfl mlX12_381 ⟨by decide, by decide⟩ rfl hl.1 (Nat.le_of_ble_eq_true rfl) ⟨by decide, by decide⟩ dX12_findLabel_41 rfl (fun H locs hW hS => ?_)
      refine lv_if_eq (tgt := 49) hx0 hb dX12_findLabel_44 (by decide) (fun c44 => ?_) (fun c44 => ?_)
      · rw [if_pos c44] at h
        refine lv_iinc (v := x2 + (1 : Int32)) (lv' := [(2, .int (x2 + (1 : Int32))), (0, .ref (b + 0))]) hx0 hb dX12_findLabel_49 hl (k := 1) rfl rfl (by decide) rfl (fun ls hl => ?_)
        refine lv_goto (tgt := 31) hx0 hb dX12_findLabel_52 (by decide) ?_
        exact ih (x2 + (1 : Int32)) v41.2 h _ _ _ hW hS (lv_sub hl [1, 0] rfl)
      · rw [if_neg c44] at h
        refine lv_iload_n hx0 hb dX12_findLabel_47 rfl (lv_at hl 1 rfl) ?_
        cases h
        cases hr _ rfl
        exact w_iret C hW hS dX12_findLabel_48
def fX12_findLabel (x1 : Int32) (σ : Mem) : Option (Int32 × Mem) :=
  (fX12_laysOrder (up σ 0 0 (0 : Int32))).bind fun v6 => (fX12_isIn x1.toInt64 (0 : Int64) ((v6 0 17).toInt64) v6).bind fun v17 => if v17 = 0 then ((fX12_fails (1 : Int32) v6).bind fun v25 => some (v25.1, v25.2)) else ((fX12_findLabel_l31 FU x1 v6).bind fun q31 => match q31 with | .inl r => some r | .inr q31 => some ((-1 : Int32), q31.2))
set_option maxRecDepth 100000 in
set_option maxHeartbeats 4000000 in
theorem mX12_findLabel {l : Launch} {E : Ev} {b : Nat} (x1 : Int32) (σ : Mem) (r : (Int32 × Mem)) (h : fX12_findLabel x1 σ = some r) : Met l yX12_findLabel (tw yX12_findLabel cX12_findLabel 3 (some .int)) { frames := 8, cells := 0, slots := 0, locals := 257 } (va_Pc [.ref (b + 0), .int x1] (Pr l E (LM E b) σ)) (Qz E (LM E b) (some (.int r.1)) r.2) 0 0 (La (LM E b)) := by
  refine ct_of (by decide) (Nat.le_of_ble_eq_true rfl) ?_
  intro p e s m below meth c C hW hS ls hl
  have hx0 := C.1
  have hb := C.2.1
  have hl : lv_has ls 3 [(0, .ref (b + 0)), (1, .int x1)] := hl
  unfold fX12_findLabel at h
  refine lv_aload_n hx0 hb dX12_findLabel_0 rfl (lv_at hl 0 rfl) ?_
  refine lv_iconst (v := (0 : Int32)) hx0 hb dX12_findLabel_1 (by decide) ?_
  refine ptX12_0 C hW hS flX12_3 dX12_findLabel_2 (fun H locs hW hS => ?_)
  refine lv_aload_n hx0 hb dX12_findLabel_5 rfl (lv_at hl 0 rfl) ?_
  obtain ⟨v6, h6, h⟩ := bnd h
  try dsimp only at h
  refine w_callV (L := (LM E b)) (k := 0) (As := []) (rest := []) C hW hS (show 0 < 18 by decide) cm0 kcX12 (mX12_laysOrder   (up σ 0 0 (0 : Int32)) v6 h6) cwX12_laysOrder cvX12_laysOrder rfl mlX12_239 ⟨by decide, by decide⟩ rfl hl.1 (Nat.le_of_ble_eq_true rfl) ⟨by decide, by decide⟩ dX12_findLabel_6 rfl (fun H locs hW hS => ?_)
  refine lv_iload_n hx0 hb dX12_findLabel_9 rfl (lv_at hl 1 rfl) ?_
  refine lv_i2l hx0 hb dX12_findLabel_10 rfl ?_
  refine lv_lconst (v := (0 : Int64)) hx0 hb dX12_findLabel_11 (by decide) ?_
  refine lv_aload_n hx0 hb dX12_findLabel_12 rfl (lv_at hl 0 rfl) ?_
  refine gtX12_17 C hW flX12_232 dX12_findLabel_13 ?_
  refine lv_i2l hx0 hb dX12_findLabel_16 rfl ?_
  obtain ⟨v17, h17, h⟩ := bnd h
  try dsimp only at h
  refine w_callS (L := (LM E b)) (As := [.long x1.toInt64, .long (0 : Int64), .long ((v6 0 17).toInt64)]) (rest := []) C hW hS (mX12_isIn x1.toInt64 (0 : Int64) ((v6 0 17).toInt64)  v6 v17 h17) cwX12_isIn csX12_isIn mlX12_101 ⟨by decide, by decide⟩ rfl hl.1 (Nat.le_of_ble_eq_true rfl) ⟨by decide, by decide⟩ dX12_findLabel_17 rfl (fun H locs hW hS => ?_)
  refine lv_if_ne (tgt := 29) hx0 hb dX12_findLabel_20 (by decide) (fun c20 => ?_) (fun c20 => ?_)
  · rw [if_neg c20] at h
    refine lv_iload_n hx0 hb dX12_findLabel_29 rfl (lv_at hl 1 rfl) ?_
    refine lv_istore_n (lv' := [(2, .int x1), (0, .ref (b + 0)), (1, .int x1)]) hx0 hb dX12_findLabel_30 rfl hl (by decide) rfl (fun ls hl => ?_)
    obtain ⟨q31, h31, h⟩ := bnd h
    refine bX12_findLabel_l31 C   r (q0 := q31) ?_ ?_ FU x1 v6 h31 _ _ _ hW hS (lv_sub hl [1, 0] rfl)
    · intro r1 hq; subst hq; (try dsimp only at h); exact Option.some.inj h
    · intro q31 hq H locs ls hW hS hl
      subst hq; try dsimp only at h
      refine lv_iconst (v := (-1 : Int32)) hx0 hb dX12_findLabel_55 (by decide) ?_
      cases h
      exact w_iret C hW hS dX12_findLabel_56
  · rw [if_pos c20] at h
    refine lv_aload_n hx0 hb dX12_findLabel_23 rfl (lv_at hl 0 rfl) ?_
    refine lv_iconst (v := (1 : Int32)) hx0 hb dX12_findLabel_24 (by decide) ?_
    obtain ⟨v25, h25, h⟩ := bnd h
    try dsimp only at h
    refine w_callV (L := (LM E b)) (k := 0) (As := [.int (1 : Int32)]) (rest := []) C hW hS (show 0 < 18 by decide) cm0 kcX12 (mX12_fails (1 : Int32)  v6 v25 h25) cwX12_fails cvX12_fails rfl mlX12_94 ⟨by decide, by decide⟩ rfl hl.1 (Nat.le_of_ble_eq_true rfl) ⟨by decide, by decide⟩ dX12_findLabel_25 rfl (fun H locs hW hS => ?_)
    cases h
    exact w_iret C hW hS dX12_findLabel_28
def fX12_isSought_l22 : Nat → Int32 → Int32 → Mem → Option (Int32 × Int32)
  | 0, _, _, _ => none
  | n + 1, x3, x4, σ => if (σ 0 21) ≤ x4 then (some (x3, x4)) else (if x3 = 0 then (some (x3, x4)) else (if x4 < 0 ∨ lm 10 ≤ x4.toNatClampNeg then none else if x4 < 0 ∨ lm 16 ≤ x4.toNatClampNeg then none else if (σ 10 x4.toNatClampNeg) = (σ 16 x4.toNatClampNeg) then (fX12_isSought_l22 n (1 : Int32) (x4 + (1 : Int32)) σ) else (fX12_isSought_l22 n (0 : Int32) (x4 + (1 : Int32)) σ)))
set_option maxRecDepth 100000 in
set_option maxHeartbeats 4000000 in
theorem bX12_isSought_l22 {p : Program} {l : Launch} {e : Env} {s : State} {m : MethodId} {args : Array Value} {below : List Frame} {meth : Method} {c : Code} {E : Ev} {b : Nat} (C : Cx p l s m args meth c E cX12_isSought 5 RX12 (some .boolean)) (σ : Mem) {Qf : State → Prop} {q : Int32 × Int32} (hx : ∀ H locs ls, Wd E (LM E b) σ H → va_S (La (LM E b)) s.heap H locs → lv_has ls 5 [(0, .ref (b + 0)), (3, .int q.1), (4, .int q.2)] → W p l e { frames := 7, cells := 0, slots := 0, locals := 234 } s m args below meth c H locs 0 0 Qf (F0 m 64 ls [])) : ∀ (n : Nat) (x3 : Int32) (x4 : Int32), fX12_isSought_l22 n x3 x4 σ = some q → ∀ (H : Heap) (locs : List Loc) (ls : Array Slot), Wd E (LM E b) σ H → va_S (La (LM E b)) s.heap H locs → lv_has ls 5 [(0, .ref (b + 0)), (3, .int x3), (4, .int x4)] → W p l e { frames := 7, cells := 0, slots := 0, locals := 234 } s m args below meth c H locs 0 0 Qf (F0 m 22 ls []) := by
  have hx0 := C.1
  have hb := C.2.1
  intro n
  induction n with
  | zero => intro x3 x4 h; simp [fX12_isSought_l22] at h
  | succ n ih =>
    intro x3 x4 h H locs ls hW hS hl
    unfold fX12_isSought_l22 at h
    refine lv_iload hx0 hb dX12_isSought_22 (lv_at hl 2 rfl) ?_
    refine lv_aload_n hx0 hb dX12_isSought_24 rfl (lv_at hl 0 rfl) ?_
    refine gtX12_21 C hW flX12_242 dX12_isSought_25 ?_
    refine lv_icmp_ge (tgt := 64) hx0 hb dX12_isSought_28 (by decide) (fun c28 => ?_) (fun c28 => ?_)
    · rw [if_pos c28] at h
      cases h
      exact hx _ _ _ hW hS (lv_sub hl [0, 1, 2] rfl)
    · rw [if_neg c28] at h
      refine lv_iload_n hx0 hb dX12_isSought_31 rfl (lv_at hl 1 rfl) ?_
      refine lv_if_eq (tgt := 64) hx0 hb dX12_isSought_32 (by decide) (fun c32 => ?_) (fun c32 => ?_)
      · rw [if_pos c32] at h
        cases h
        exact hx _ _ _ hW hS (lv_sub hl [0, 1, 2] rfl)
      · rw [if_neg c32] at h
        refine lv_aload_n hx0 hb dX12_isSought_35 rfl (lv_at hl 0 rfl) ?_
        refine gtX12_19 C hW flX12_42 dX12_isSought_36 ?_
        refine lv_iload hx0 hb dX12_isSought_39 (lv_at hl 2 rfl) ?_
        by_cases z41 : x4 < 0 ∨ lm 10 ≤ x4.toNatClampNeg
        · rw [if_pos z41] at h; cases h
        rw [if_neg z41] at h
        refine ldBm (k := 10) C hW (by decide) z41 dX12_isSought_41 ?_
        refine lv_aload_n hx0 hb dX12_isSought_42 rfl (lv_at hl 0 rfl) ?_
        refine gtX12_28 C hW flX12_60 dX12_isSought_43 ?_
        refine lv_iload hx0 hb dX12_isSought_46 (lv_at hl 2 rfl) ?_
        by_cases z48 : x4 < 0 ∨ lm 16 ≤ x4.toNatClampNeg
        · rw [if_pos z48] at h; cases h
        rw [if_neg z48] at h
        refine ldBm (k := 16) C hW (by decide) z48 dX12_isSought_48 ?_
        refine lv_icmp_ne (tgt := 56) hx0 hb dX12_isSought_49 (by decide) (fun c49 => ?_) (fun c49 => ?_)
        · rw [if_neg c49] at h
          refine lv_iconst (v := (0 : Int32)) hx0 hb dX12_isSought_56 (by decide) ?_
          refine lv_istore_n (lv' := [(3, .int (0 : Int32)), (0, .ref (b + 0)), (4, .int x4)]) hx0 hb dX12_isSought_57 rfl hl (by decide) rfl (fun ls hl => ?_)
          refine lv_iinc (v := x4 + (1 : Int32)) (lv' := [(4, .int (x4 + (1 : Int32))), (3, .int (0 : Int32)), (0, .ref (b + 0))]) hx0 hb dX12_isSought_58 hl (k := 2) rfl rfl (by decide) rfl (fun ls hl => ?_)
          refine lv_goto (tgt := 22) hx0 hb dX12_isSought_61 (by decide) ?_
          exact ih (0 : Int32) (x4 + (1 : Int32)) h _ _ _ hW hS (lv_sub hl [2, 1, 0] rfl)
        · rw [if_pos c49] at h
          refine lv_iconst (v := (1 : Int32)) hx0 hb dX12_isSought_52 (by decide) ?_
          refine lv_goto (tgt := 57) hx0 hb dX12_isSought_53 (by decide) ?_
          refine lv_istore_n (lv' := [(3, .int (1 : Int32)), (0, .ref (b + 0)), (4, .int x4)]) hx0 hb dX12_isSought_57 rfl hl (by decide) rfl (fun ls hl => ?_)
          refine lv_iinc (v := x4 + (1 : Int32)) (lv' := [(4, .int (x4 + (1 : Int32))), (3, .int (1 : Int32)), (0, .ref (b + 0))]) hx0 hb dX12_isSought_58 hl (k := 2) rfl rfl (by decide) rfl (fun ls hl => ?_)
          refine lv_goto (tgt := 22) hx0 hb dX12_isSought_61 (by decide) ?_
          exact ih (1 : Int32) (x4 + (1 : Int32)) h _ _ _ hW hS (lv_sub hl [2, 1, 0] rfl)
def fX12_isSought_j18 (s0 : Int32) (σ : Mem) : Option ((Int32 × Mem)) :=
  (fX12_isSought_l22 FU s0 (0 : Int32) σ).bind fun q22 => if q22.1 = 0 ∨ q22.1 = 1 then some (q22.1, σ) else none
set_option maxRecDepth 100000 in
set_option maxHeartbeats 4000000 in
theorem bX12_isSought_j18 {p : Program} {l : Launch} {e : Env} {s : State} {m : MethodId} {args : Array Value} {below : List Frame} {meth : Method} {c : Code} {E : Ev} {b : Nat} (C : Cx p l s m args meth c E cX12_isSought 5 RX12 (some .boolean)) (s0 : Int32) {r : (Int32 × Mem)} (σ : Mem) (h : fX12_isSought_j18 s0 σ = some r) (H : Heap) (locs : List Loc) (ls : Array Slot) (hW : Wd E (LM E b) σ H) (hS : va_S (La (LM E b)) s.heap H locs) (hl : lv_has ls 5 [(0, .ref (b + 0))]) : W p l e { frames := 7, cells := 0, slots := 0, locals := 234 } s m args below meth c H locs 0 0 (MQ below (Qz E (LM E b) (some (.int r.1)) r.2) args s 0 0 (La (LM E b))) (F0 m 18 ls [.int s0]) := by
  have hx0 := C.1
  have hb := C.2.1
  unfold fX12_isSought_j18 at h
  refine lv_istore_n (lv' := [(3, .int s0), (0, .ref (b + 0))]) hx0 hb dX12_isSought_18 rfl hl (by decide) rfl (fun ls hl => ?_)
  refine lv_iconst (v := (0 : Int32)) hx0 hb dX12_isSought_19 (by decide) ?_
  refine lv_istore (lv' := [(4, .int (0 : Int32)), (3, .int s0), (0, .ref (b + 0))]) hx0 hb dX12_isSought_20 hl (by decide) rfl (fun ls hl => ?_)
  obtain ⟨q22, h22, h⟩ := bnd h
  try dsimp only at h
  refine bX12_isSought_l22 C   σ (q := q22) ?_ FU s0 (0 : Int32) h22 _ _ _ hW hS (lv_sub hl [2, 1, 0] rfl)
  intro H locs ls hW hS hl
  refine lv_iload_n hx0 hb dX12_isSought_64 rfl (lv_at hl 1 rfl) ?_
  by_cases z65 : q22.1 = 0 ∨ q22.1 = 1
  case neg => rw [if_neg z65] at h; cases h
  rw [if_pos z65] at h
  cases h
  exact w_zret C hW hS z65 dX12_isSought_65
def fX12_isSought (x1 : Int32) (x2 : Int32) (σ : Mem) : Option (Int32 × Mem) :=
  (fX12_laysLabel x1 σ).bind fun v2 => if (v2 0 21) = x2 then (fX12_isSought_j18 (1 : Int32) v2) else (fX12_isSought_j18 (0 : Int32) v2)
set_option maxRecDepth 100000 in
set_option maxHeartbeats 4000000 in
theorem mX12_isSought {l : Launch} {E : Ev} {b : Nat} (x1 : Int32) (x2 : Int32) (σ : Mem) (r : (Int32 × Mem)) (h : fX12_isSought x1 x2 σ = some r) : Met l yX12_isSought (tw yX12_isSought cX12_isSought 5 (some .boolean)) { frames := 7, cells := 0, slots := 0, locals := 234 } (va_Pc [.ref (b + 0), .int x1, .int x2] (Pr l E (LM E b) σ)) (Qz E (LM E b) (some (.int r.1)) r.2) 0 0 (La (LM E b)) := by
  refine ct_of (by decide) (Nat.le_of_ble_eq_true rfl) ?_
  intro p e s m below meth c C hW hS ls hl
  have hx0 := C.1
  have hb := C.2.1
  have hl : lv_has ls 5 [(0, .ref (b + 0)), (1, .int x1), (2, .int x2)] := hl
  unfold fX12_isSought at h
  refine lv_aload_n hx0 hb dX12_isSought_0 rfl (lv_at hl 0 rfl) ?_
  refine lv_iload_n hx0 hb dX12_isSought_1 rfl (lv_at hl 1 rfl) ?_
  obtain ⟨v2, h2, h⟩ := bnd h
  try dsimp only at h
  refine w_callV (L := (LM E b)) (k := 0) (As := [.int x1]) (rest := []) C hW hS (show 0 < 18 by decide) cm0 kcX12 (mX12_laysLabel x1  σ v2 h2) cwX12_laysLabel cvX12_laysLabel rfl mlX12_378 ⟨by decide, by decide⟩ rfl hl.1 (Nat.le_of_ble_eq_true rfl) ⟨by decide, by decide⟩ dX12_isSought_2 rfl (fun H locs hW hS => ?_)
  refine lv_aload_n hx0 hb dX12_isSought_5 rfl (lv_at hl 0 rfl) ?_
  refine gtX12_21 C hW flX12_242 dX12_isSought_6 ?_
  refine lv_iload_n hx0 hb dX12_isSought_9 rfl (lv_at hl 2 rfl) ?_
  refine lv_icmp_ne (tgt := 17) hx0 hb dX12_isSought_10 (by decide) (fun c10 => ?_) (fun c10 => ?_)
  · rw [if_neg c10] at h
    refine lv_iconst (v := (0 : Int32)) hx0 hb dX12_isSought_17 (by decide) ?_
    exact bX12_isSought_j18 C (0 : Int32) v2 h _ _ _ hW hS (lv_sub hl [0] rfl)
  · rw [if_pos c10] at h
    refine lv_iconst (v := (1 : Int32)) hx0 hb dX12_isSought_13 (by decide) ?_
    refine lv_goto (tgt := 18) hx0 hb dX12_isSought_14 (by decide) ?_
    exact bX12_isSought_j18 C (1 : Int32) v2 h _ _ _ hW hS (lv_sub hl [0] rfl)
def fX12_sameLabels_l31 (x2 : Int32) : Nat → Int32 → Mem → Option (Int32 × Mem)
  | 0, _, _ => none
  | n + 1, x3, σ => if x2 ≤ x3 then (some (x3, σ)) else (if x3 < 0 ∨ lm 10 ≤ x3.toNatClampNeg then none else if x3 < 0 ∨ lm 16 ≤ x3.toNatClampNeg then none else fX12_sameLabels_l31 x2 n (x3 + (1 : Int32)) (up σ 16 x3.toNatClampNeg (vp_nar .byte (σ 10 x3.toNatClampNeg))))
set_option maxRecDepth 100000 in
set_option maxHeartbeats 4000000 in
theorem bX12_sameLabels_l31 {p : Program} {l : Launch} {e : Env} {s : State} {m : MethodId} {args : Array Value} {below : List Frame} {meth : Method} {c : Code} {E : Ev} {b : Nat} (C : Cx p l s m args meth c E cX12_sameLabels 5 RX12 (some .int)) (x2 : Int32) {Qf : State → Prop} {q : Int32 × Mem} (hx : ∀ H locs ls, Wd E (LM E b) q.2 H → va_S (La (LM E b)) s.heap H locs → lv_has ls 5 [(0, .ref (b + 0)), (2, .int x2), (3, .int q.1)] → W p l e { frames := 8, cells := 0, slots := 0, locals := 258 } s m args below meth c H locs 0 0 Qf (F0 m 54 ls [])) : ∀ (n : Nat) (x3 : Int32) (σ : Mem), fX12_sameLabels_l31 x2 n x3 σ = some q → ∀ (H : Heap) (locs : List Loc) (ls : Array Slot), Wd E (LM E b) σ H → va_S (La (LM E b)) s.heap H locs → lv_has ls 5 [(0, .ref (b + 0)), (2, .int x2), (3, .int x3)] → W p l e { frames := 8, cells := 0, slots := 0, locals := 258 } s m args below meth c H locs 0 0 Qf (F0 m 31 ls []) := by
  have hx0 := C.1
  have hb := C.2.1
  intro n
  induction n with
  | zero => intro x3 σ h; simp [fX12_sameLabels_l31] at h
  | succ n ih =>
    intro x3 σ h H locs ls hW hS hl
    unfold fX12_sameLabels_l31 at h
    refine lv_iload_n hx0 hb dX12_sameLabels_31 rfl (lv_at hl 2 rfl) ?_
    refine lv_iload_n hx0 hb dX12_sameLabels_32 rfl (lv_at hl 1 rfl) ?_
    refine lv_icmp_ge (tgt := 54) hx0 hb dX12_sameLabels_33 (by decide) (fun c33 => ?_) (fun c33 => ?_)
    · rw [if_pos c33] at h
      cases h
      exact hx _ _ _ hW hS (lv_sub hl [0, 1, 2] rfl)
    · rw [if_neg c33] at h
      refine lv_aload_n hx0 hb dX12_sameLabels_36 rfl (lv_at hl 0 rfl) ?_
      refine gtX12_28 C hW flX12_60 dX12_sameLabels_37 ?_
      refine lv_iload_n hx0 hb dX12_sameLabels_40 rfl (lv_at hl 2 rfl) ?_
      refine lv_aload_n hx0 hb dX12_sameLabels_41 rfl (lv_at hl 0 rfl) ?_
      refine gtX12_19 C hW flX12_42 dX12_sameLabels_42 ?_
      refine lv_iload_n hx0 hb dX12_sameLabels_45 rfl (lv_at hl 2 rfl) ?_
      by_cases z46 : x3 < 0 ∨ lm 10 ≤ x3.toNatClampNeg
      · rw [if_pos z46] at h; cases h
      rw [if_neg z46] at h
      refine ldBm (k := 10) C hW (by decide) z46 dX12_sameLabels_46 ?_
      by_cases z47 : x3 < 0 ∨ lm 16 ≤ x3.toNatClampNeg
      · rw [if_pos z47] at h; cases h
      rw [if_neg z47] at h
      refine saBm (k := 16) C hW hS (by decide) z47 dX12_sameLabels_47 (fun H locs hW hS => ?_)
      refine lv_iinc (v := x3 + (1 : Int32)) (lv' := [(3, .int (x3 + (1 : Int32))), (0, .ref (b + 0)), (2, .int x2)]) hx0 hb dX12_sameLabels_48 hl (k := 2) rfl rfl (by decide) rfl (fun ls hl => ?_)
      refine lv_goto (tgt := 31) hx0 hb dX12_sameLabels_51 (by decide) ?_
      exact ih (x3 + (1 : Int32)) (up σ 16 x3.toNatClampNeg (vp_nar .byte (σ 10 x3.toNatClampNeg))) h _ _ _ hW hS (lv_sub hl [1, 2, 0] rfl)
def fX12_sameLabels_l59 (x2 : Int32) : Nat → Int32 → Int32 → Mem → Option (Int32 × Int32 × Mem)
  | 0, _, _, _ => none
  | n + 1, x3, x4, σ => if (σ 0 17) ≤ x4 then (some (x3, x4, σ)) else ((fX12_isSought x4 x2 σ).bind fun v73 => if v73.1 = 0 then (fX12_sameLabels_l59 x2 n (x3 + (0 : Int32)) (x4 + (1 : Int32)) v73.2) else (fX12_sameLabels_l59 x2 n (x3 + (1 : Int32)) (x4 + (1 : Int32)) v73.2))
set_option maxRecDepth 100000 in
set_option maxHeartbeats 4000000 in
theorem bX12_sameLabels_l59 {p : Program} {l : Launch} {e : Env} {s : State} {m : MethodId} {args : Array Value} {below : List Frame} {meth : Method} {c : Code} {E : Ev} {b : Nat} (C : Cx p l s m args meth c E cX12_sameLabels 5 RX12 (some .int)) (x2 : Int32) {Qf : State → Prop} {q : Int32 × Int32 × Mem} (hx : ∀ H locs ls, Wd E (LM E b) q.2.2 H → va_S (La (LM E b)) s.heap H locs → lv_has ls 5 [(0, .ref (b + 0)), (2, .int x2), (3, .int q.1), (4, .int q.2.1)] → W p l e { frames := 8, cells := 0, slots := 0, locals := 258 } s m args below meth c H locs 0 0 Qf (F0 m 92 ls [])) : ∀ (n : Nat) (x3 : Int32) (x4 : Int32) (σ : Mem), fX12_sameLabels_l59 x2 n x3 x4 σ = some q → ∀ (H : Heap) (locs : List Loc) (ls : Array Slot), Wd E (LM E b) σ H → va_S (La (LM E b)) s.heap H locs → lv_has ls 5 [(0, .ref (b + 0)), (2, .int x2), (3, .int x3), (4, .int x4)] → W p l e { frames := 8, cells := 0, slots := 0, locals := 258 } s m args below meth c H locs 0 0 Qf (F0 m 59 ls []) := by
  have hx0 := C.1
  have hb := C.2.1
  intro n
  induction n with
  | zero => intro x3 x4 σ h; simp [fX12_sameLabels_l59] at h
  | succ n ih =>
    intro x3 x4 σ h H locs ls hW hS hl
    unfold fX12_sameLabels_l59 at h
    refine lv_iload hx0 hb dX12_sameLabels_59 (lv_at hl 3 rfl) ?_
    refine lv_aload_n hx0 hb dX12_sameLabels_61 rfl (lv_at hl 0 rfl) ?_
    refine gtX12_17 C hW flX12_232 dX12_sameLabels_62 ?_
    refine lv_icmp_ge (tgt := 92) hx0 hb dX12_sameLabels_65 (by decide) (fun c65 => ?_) (fun c65 => ?_)
    · rw [if_pos c65] at h
      cases h
      exact hx _ _ _ hW hS (lv_sub hl [0, 1, 2, 3] rfl)
    · rw [if_neg c65] at h
      refine lv_iload_n hx0 hb dX12_sameLabels_68 rfl (lv_at hl 2 rfl) ?_
      refine lv_aload_n hx0 hb dX12_sameLabels_69 rfl (lv_at hl 0 rfl) ?_
      refine lv_iload hx0 hb dX12_sameLabels_70 (lv_at hl 3 rfl) ?_
      refine lv_iload_n hx0 hb dX12_sameLabels_72 rfl (lv_at hl 1 rfl) ?_
      obtain ⟨v73, h73, h⟩ := bnd h
      try dsimp only at h
      refine w_callV (L := (LM E b)) (k := 0) (As := [.int x4, .int x2]) (rest := [.int x3]) C hW hS (show 0 < 18 by decide) cm0 kcX12 (mX12_isSought x4 x2  σ v73 h73) cwX12_isSought cvX12_isSought rfl mlX12_384 ⟨by decide, by decide⟩ rfl hl.1 (Nat.le_of_ble_eq_true rfl) ⟨by decide, by decide⟩ dX12_sameLabels_73 rfl (fun H locs hW hS => ?_)
      refine lv_if_eq (tgt := 83) hx0 hb dX12_sameLabels_76 (by decide) (fun c76 => ?_) (fun c76 => ?_)
      · rw [if_pos c76] at h
        refine lv_iconst (v := (0 : Int32)) hx0 hb dX12_sameLabels_83 (by decide) ?_
        refine lv_iadd hx0 hb dX12_sameLabels_84 ?_
        refine lv_istore_n (lv' := [(3, .int (x3 + (0 : Int32))), (0, .ref (b + 0)), (2, .int x2), (4, .int x4)]) hx0 hb dX12_sameLabels_85 rfl hl (by decide) rfl (fun ls hl => ?_)
        refine lv_iinc (v := x4 + (1 : Int32)) (lv' := [(4, .int (x4 + (1 : Int32))), (3, .int (x3 + (0 : Int32))), (0, .ref (b + 0)), (2, .int x2)]) hx0 hb dX12_sameLabels_86 hl (k := 3) rfl rfl (by decide) rfl (fun ls hl => ?_)
        refine lv_goto (tgt := 59) hx0 hb dX12_sameLabels_89 (by decide) ?_
        exact ih (x3 + (0 : Int32)) (x4 + (1 : Int32)) v73.2 h _ _ _ hW hS (lv_sub hl [2, 3, 1, 0] rfl)
      · rw [if_neg c76] at h
        refine lv_iconst (v := (1 : Int32)) hx0 hb dX12_sameLabels_79 (by decide) ?_
        refine lv_goto (tgt := 84) hx0 hb dX12_sameLabels_80 (by decide) ?_
        refine lv_iadd hx0 hb dX12_sameLabels_84 ?_
        refine lv_istore_n (lv' := [(3, .int (x3 + (1 : Int32))), (0, .ref (b + 0)), (2, .int x2), (4, .int x4)]) hx0 hb dX12_sameLabels_85 rfl hl (by decide) rfl (fun ls hl => ?_)
        refine lv_iinc (v := x4 + (1 : Int32)) (lv' := [(4, .int (x4 + (1 : Int32))), (3, .int (x3 + (1 : Int32))), (0, .ref (b + 0)), (2, .int x2)]) hx0 hb dX12_sameLabels_86 hl (k := 3) rfl rfl (by decide) rfl (fun ls hl => ?_)
        refine lv_goto (tgt := 59) hx0 hb dX12_sameLabels_89 (by decide) ?_
        exact ih (x3 + (1 : Int32)) (x4 + (1 : Int32)) v73.2 h _ _ _ hW hS (lv_sub hl [2, 3, 1, 0] rfl)
def fX12_sameLabels (x1 : Int32) (σ : Mem) : Option (Int32 × Mem) :=
  (fX12_isPlace x1 (up σ 0 0 (0 : Int32))).bind fun v7 => if v7.1 = 0 then ((fX12_fails (1 : Int32) v7.2).bind fun v15 => some (v15.1, v15.2)) else ((fX12_laysLabel x1 v7.2).bind fun v21 => (fX12_sameLabels_l31 (v21 0 21) FU (0 : Int32) v21).bind fun q31 => (fX12_sameLabels_l59 (v21 0 21) FU (0 : Int32) (0 : Int32) q31.2).bind fun q59 => some (q59.1, q59.2.2))
set_option maxRecDepth 100000 in
set_option maxHeartbeats 4000000 in
theorem mX12_sameLabels {l : Launch} {E : Ev} {b : Nat} (x1 : Int32) (σ : Mem) (r : (Int32 × Mem)) (h : fX12_sameLabels x1 σ = some r) : Met l yX12_sameLabels (tw yX12_sameLabels cX12_sameLabels 5 (some .int)) { frames := 8, cells := 0, slots := 0, locals := 258 } (va_Pc [.ref (b + 0), .int x1] (Pr l E (LM E b) σ)) (Qz E (LM E b) (some (.int r.1)) r.2) 0 0 (La (LM E b)) := by
  refine ct_of (by decide) (Nat.le_of_ble_eq_true rfl) ?_
  intro p e s m below meth c C hW hS ls hl
  have hx0 := C.1
  have hb := C.2.1
  have hl : lv_has ls 5 [(0, .ref (b + 0)), (1, .int x1)] := hl
  unfold fX12_sameLabels at h
  refine lv_aload_n hx0 hb dX12_sameLabels_0 rfl (lv_at hl 0 rfl) ?_
  refine lv_iconst (v := (0 : Int32)) hx0 hb dX12_sameLabels_1 (by decide) ?_
  refine ptX12_0 C hW hS flX12_3 dX12_sameLabels_2 (fun H locs hW hS => ?_)
  refine lv_aload_n hx0 hb dX12_sameLabels_5 rfl (lv_at hl 0 rfl) ?_
  refine lv_iload_n hx0 hb dX12_sameLabels_6 rfl (lv_at hl 1 rfl) ?_
  obtain ⟨v7, h7, h⟩ := bnd h
  try dsimp only at h
  refine w_callV (L := (LM E b)) (k := 0) (As := [.int x1]) (rest := []) C hW hS (show 0 < 18 by decide) cm0 kcX12 (mX12_isPlace x1  (up σ 0 0 (0 : Int32)) v7 h7) cwX12_isPlace cvX12_isPlace rfl mlX12_360 ⟨by decide, by decide⟩ rfl hl.1 (Nat.le_of_ble_eq_true rfl) ⟨by decide, by decide⟩ dX12_sameLabels_7 rfl (fun H locs hW hS => ?_)
  refine lv_if_ne (tgt := 19) hx0 hb dX12_sameLabels_10 (by decide) (fun c10 => ?_) (fun c10 => ?_)
  · rw [if_neg c10] at h
    refine lv_aload_n hx0 hb dX12_sameLabels_19 rfl (lv_at hl 0 rfl) ?_
    refine lv_iload_n hx0 hb dX12_sameLabels_20 rfl (lv_at hl 1 rfl) ?_
    obtain ⟨v21, h21, h⟩ := bnd h
    try dsimp only at h
    refine w_callV (L := (LM E b)) (k := 0) (As := [.int x1]) (rest := []) C hW hS (show 0 < 18 by decide) cm0 kcX12 (mX12_laysLabel x1  v7.2 v21 h21) cwX12_laysLabel cvX12_laysLabel rfl mlX12_378 ⟨by decide, by decide⟩ rfl hl.1 (Nat.le_of_ble_eq_true rfl) ⟨by decide, by decide⟩ dX12_sameLabels_21 rfl (fun H locs hW hS => ?_)
    refine lv_aload_n hx0 hb dX12_sameLabels_24 rfl (lv_at hl 0 rfl) ?_
    refine gtX12_21 C hW flX12_242 dX12_sameLabels_25 ?_
    refine lv_istore_n (lv' := [(2, .int (v21 0 21)), (0, .ref (b + 0)), (1, .int x1)]) hx0 hb dX12_sameLabels_28 rfl hl (by decide) rfl (fun ls hl => ?_)
    refine lv_iconst (v := (0 : Int32)) hx0 hb dX12_sameLabels_29 (by decide) ?_
    refine lv_istore_n (lv' := [(3, .int (0 : Int32)), (2, .int (v21 0 21)), (0, .ref (b + 0)), (1, .int x1)]) hx0 hb dX12_sameLabels_30 rfl hl (by decide) rfl (fun ls hl => ?_)
    obtain ⟨q31, h31, h⟩ := bnd h
    try dsimp only at h
    refine bX12_sameLabels_l31 C (v21 0 21)  (q := q31) ?_ FU (0 : Int32) v21 h31 _ _ _ hW hS (lv_sub hl [2, 1, 0] rfl)
    intro H locs ls hW hS hl
    refine lv_iconst (v := (0 : Int32)) hx0 hb dX12_sameLabels_54 (by decide) ?_
    refine lv_istore_n (lv' := [(3, .int (0 : Int32)), (0, .ref (b + 0)), (2, .int (v21 0 21))]) hx0 hb dX12_sameLabels_55 rfl hl (by decide) rfl (fun ls hl => ?_)
    refine lv_iconst (v := (0 : Int32)) hx0 hb dX12_sameLabels_56 (by decide) ?_
    refine lv_istore (lv' := [(4, .int (0 : Int32)), (3, .int (0 : Int32)), (0, .ref (b + 0)), (2, .int (v21 0 21))]) hx0 hb dX12_sameLabels_57 hl (by decide) rfl (fun ls hl => ?_)
    obtain ⟨q59, h59, h⟩ := bnd h
    try dsimp only at h
    refine bX12_sameLabels_l59 C (v21 0 21)  (q := q59) ?_ FU (0 : Int32) (0 : Int32) q31.2 h59 _ _ _ hW hS (lv_sub hl [2, 3, 1, 0] rfl)
    intro H locs ls hW hS hl
    refine lv_iload_n hx0 hb dX12_sameLabels_92 rfl (lv_at hl 2 rfl) ?_
    cases h
    exact w_iret C hW hS dX12_sameLabels_93
  · rw [if_pos c10] at h
    refine lv_aload_n hx0 hb dX12_sameLabels_13 rfl (lv_at hl 0 rfl) ?_
    refine lv_iconst (v := (1 : Int32)) hx0 hb dX12_sameLabels_14 (by decide) ?_
    obtain ⟨v15, h15, h⟩ := bnd h
    try dsimp only at h
    refine w_callV (L := (LM E b)) (k := 0) (As := [.int (1 : Int32)]) (rest := []) C hW hS (show 0 < 18 by decide) cm0 kcX12 (mX12_fails (1 : Int32)  v7.2 v15 h15) cwX12_fails cvX12_fails rfl mlX12_94 ⟨by decide, by decide⟩ rfl hl.1 (Nat.le_of_ble_eq_true rfl) ⟨by decide, by decide⟩ dX12_sameLabels_15 rfl (fun H locs hW hS => ?_)
    cases h
    exact w_iret C hW hS dX12_sameLabels_18
def fX12_openingCount (σ : Mem) : Option (Int32 × Mem) :=
  (fX12_openings (up σ 0 0 (0 : Int32))).bind fun v6 => some (v6, up σ 0 0 (0 : Int32))
set_option maxRecDepth 100000 in
set_option maxHeartbeats 4000000 in
theorem mX12_openingCount {l : Launch} {E : Ev} {b : Nat} (σ : Mem) (r : (Int32 × Mem)) (h : fX12_openingCount σ = some r) : Met l yX12_openingCount (tw yX12_openingCount cX12_openingCount 1 (some .int)) { frames := 3, cells := 0, slots := 0, locals := 64 } (va_Pc [.ref (b + 0)] (Pr l E (LM E b) σ)) (Qz E (LM E b) (some (.int r.1)) r.2) 0 0 (La (LM E b)) := by
  refine ct_of (by decide) (Nat.le_of_ble_eq_true rfl) ?_
  intro p e s m below meth c C hW hS ls hl
  have hx0 := C.1
  have hb := C.2.1
  have hl : lv_has ls 1 [(0, .ref (b + 0))] := hl
  unfold fX12_openingCount at h
  refine lv_aload_n hx0 hb dX12_openingCount_0 rfl (lv_at hl 0 rfl) ?_
  refine lv_iconst (v := (0 : Int32)) hx0 hb dX12_openingCount_1 (by decide) ?_
  refine ptX12_0 C hW hS flX12_3 dX12_openingCount_2 (fun H locs hW hS => ?_)
  refine lv_aload_n hx0 hb dX12_openingCount_5 rfl (lv_at hl 0 rfl) ?_
  obtain ⟨v6, h6, h⟩ := bnd h
  try dsimp only at h
  refine w_callV (L := (LM E b)) (k := 0) (As := []) (rest := []) C hW hS (show 0 < 18 by decide) cm0 kcX12 (mX12_openings   (up σ 0 0 (0 : Int32)) v6 h6) cwX12_openings cvX12_openings rfl mlX12_351 ⟨by decide, by decide⟩ rfl hl.1 (Nat.le_of_ble_eq_true rfl) ⟨by decide, by decide⟩ dX12_openingCount_6 rfl (fun H locs hW hS => ?_)
  cases h
  exact w_iret C hW hS dX12_openingCount_9
def fX12_scansOn_l29 (x1 : Int32) (x2 : Int32) (x3 : Int32) : Nat → Int32 → Int32 → Mem → Option (Int32 × Int32)
  | 0, _, _, _ => none
  | n + 1, x4, x5, σ => if (2 : Int32) ≤ x5 then (some (x4, x5)) else (if x5 < 0 ∨ lm 12 ≤ x5.toNatClampNeg then none else if x4 = 0 then (if (σ 12 x5.toNatClampNeg) = (-1 : Int32) then (fX12_scansOn_l29 x1 x2 x3 n (0 : Int32) (x5 + (1 : Int32)) σ) else (if ((4 : Int32) * (σ 12 x5.toNatClampNeg)) < 0 ∨ lm 8 ≤ ((4 : Int32) * (σ 12 x5.toNatClampNeg)).toNatClampNeg then none else if (((4 : Int32) * (σ 12 x5.toNatClampNeg)) + (1 : Int32)) < 0 ∨ lm 8 ≤ (((4 : Int32) * (σ 12 x5.toNatClampNeg)) + (1 : Int32)).toNatClampNeg then none else (fX12_openingOf (σ 8 ((4 : Int32) * (σ 12 x5.toNatClampNeg)).toNatClampNeg) (σ 8 (((4 : Int32) * (σ 12 x5.toNatClampNeg)) + (1 : Int32)).toNatClampNeg) σ).bind fun v76 => if v76 = x1 then (fX12_scansOn_l29 x1 x2 x3 n (1 : Int32) (x5 + (1 : Int32)) σ) else (fX12_scansOn_l29 x1 x2 x3 n (0 : Int32) (x5 + (1 : Int32)) σ))) else (fX12_scansOn_l29 x1 x2 x3 n (1 : Int32) (x5 + (1 : Int32)) σ))
set_option maxRecDepth 100000 in
set_option maxHeartbeats 4000000 in
theorem bX12_scansOn_l29 {p : Program} {l : Launch} {e : Env} {s : State} {m : MethodId} {args : Array Value} {below : List Frame} {meth : Method} {c : Code} {E : Ev} {b : Nat} (C : Cx p l s m args meth c E cX12_scansOn 7 RX12 (some .int)) (x1 : Int32) (x2 : Int32) (x3 : Int32) (σ : Mem) {Qf : State → Prop} {q : Int32 × Int32} (hx : ∀ H locs ls, Wd E (LM E b) σ H → va_S (La (LM E b)) s.heap H locs → lv_has ls 7 [(0, .ref (b + 0)), (1, .int x1), (2, .int x2), (3, .int x3), (4, .int q.1), (5, .int q.2)] → W p l e { frames := 3, cells := 0, slots := 0, locals := 68 } s m args below meth c H locs 0 0 Qf (F0 m 96 ls [])) : ∀ (n : Nat) (x4 : Int32) (x5 : Int32), fX12_scansOn_l29 x1 x2 x3 n x4 x5 σ = some q → ∀ (H : Heap) (locs : List Loc) (ls : Array Slot), Wd E (LM E b) σ H → va_S (La (LM E b)) s.heap H locs → lv_has ls 7 [(0, .ref (b + 0)), (1, .int x1), (2, .int x2), (3, .int x3), (4, .int x4), (5, .int x5)] → W p l e { frames := 3, cells := 0, slots := 0, locals := 68 } s m args below meth c H locs 0 0 Qf (F0 m 29 ls []) := by
  have hx0 := C.1
  have hb := C.2.1
  intro n
  induction n with
  | zero => intro x4 x5 h; simp [fX12_scansOn_l29] at h
  | succ n ih =>
    intro x4 x5 h H locs ls hW hS hl
    unfold fX12_scansOn_l29 at h
    refine lv_iload hx0 hb dX12_scansOn_29 (lv_at hl 5 rfl) ?_
    refine lv_iconst (v := (2 : Int32)) hx0 hb dX12_scansOn_31 (by decide) ?_
    refine lv_icmp_ge (tgt := 96) hx0 hb dX12_scansOn_32 (by decide) (fun c32 => ?_) (fun c32 => ?_)
    · rw [if_pos c32] at h
      cases h
      exact hx _ _ _ hW hS (lv_sub hl [0, 1, 2, 3, 4, 5] rfl)
    · rw [if_neg c32] at h
      refine lv_aload_n hx0 hb dX12_scansOn_35 rfl (lv_at hl 0 rfl) ?_
      refine gtX12_23 C hW flX12_48 dX12_scansOn_36 ?_
      refine lv_iload hx0 hb dX12_scansOn_39 (lv_at hl 5 rfl) ?_
      by_cases z41 : x5 < 0 ∨ lm 12 ≤ x5.toNatClampNeg
      · rw [if_pos z41] at h; cases h
      rw [if_neg z41] at h
      refine ldIm (k := 12) C hW (by decide) z41 dX12_scansOn_41 ?_
      refine lv_istore (lv' := [(6, .int (σ 12 x5.toNatClampNeg)), (0, .ref (b + 0)), (1, .int x1), (2, .int x2), (3, .int x3), (4, .int x4), (5, .int x5)]) hx0 hb dX12_scansOn_42 hl (by decide) rfl (fun ls hl => ?_)
      refine lv_iload hx0 hb dX12_scansOn_44 (lv_at hl 5 rfl) ?_
      refine lv_if_ne (tgt := 83) hx0 hb dX12_scansOn_46 (by decide) (fun c46 => ?_) (fun c46 => ?_)
      · rw [if_neg c46] at h
        refine lv_iconst (v := (1 : Int32)) hx0 hb dX12_scansOn_83 (by decide) ?_
        refine lv_goto (tgt := 88) hx0 hb dX12_scansOn_84 (by decide) ?_
        refine lv_istore (lv' := [(4, .int (1 : Int32)), (6, .int (σ 12 x5.toNatClampNeg)), (0, .ref (b + 0)), (1, .int x1), (2, .int x2), (3, .int x3), (5, .int x5)]) hx0 hb dX12_scansOn_88 hl (by decide) rfl (fun ls hl => ?_)
        refine lv_iinc (v := x5 + (1 : Int32)) (lv' := [(5, .int (x5 + (1 : Int32))), (4, .int (1 : Int32)), (6, .int (σ 12 x5.toNatClampNeg)), (0, .ref (b + 0)), (1, .int x1), (2, .int x2), (3, .int x3)]) hx0 hb dX12_scansOn_90 hl (k := 6) rfl rfl (by decide) rfl (fun ls hl => ?_)
        refine lv_goto (tgt := 29) hx0 hb dX12_scansOn_93 (by decide) ?_
        exact ih (1 : Int32) (x5 + (1 : Int32)) h _ _ _ hW hS (lv_sub hl [3, 4, 5, 6, 1, 0] rfl)
      · rw [if_pos c46] at h
        refine lv_iload hx0 hb dX12_scansOn_49 (lv_at hl 0 rfl) ?_
        refine lv_iconst (v := (-1 : Int32)) hx0 hb dX12_scansOn_51 (by decide) ?_
        refine lv_icmp_eq (tgt := 87) hx0 hb dX12_scansOn_52 (by decide) (fun c52 => ?_) (fun c52 => ?_)
        · rw [if_pos c52] at h
          refine lv_iconst (v := (0 : Int32)) hx0 hb dX12_scansOn_87 (by decide) ?_
          refine lv_istore (lv' := [(4, .int (0 : Int32)), (6, .int (σ 12 x5.toNatClampNeg)), (0, .ref (b + 0)), (1, .int x1), (2, .int x2), (3, .int x3), (5, .int x5)]) hx0 hb dX12_scansOn_88 hl (by decide) rfl (fun ls hl => ?_)
          refine lv_iinc (v := x5 + (1 : Int32)) (lv' := [(5, .int (x5 + (1 : Int32))), (4, .int (0 : Int32)), (6, .int (σ 12 x5.toNatClampNeg)), (0, .ref (b + 0)), (1, .int x1), (2, .int x2), (3, .int x3)]) hx0 hb dX12_scansOn_90 hl (k := 6) rfl rfl (by decide) rfl (fun ls hl => ?_)
          refine lv_goto (tgt := 29) hx0 hb dX12_scansOn_93 (by decide) ?_
          exact ih (0 : Int32) (x5 + (1 : Int32)) h _ _ _ hW hS (lv_sub hl [3, 4, 5, 6, 1, 0] rfl)
        · rw [if_neg c52] at h
          refine lv_aload_n hx0 hb dX12_scansOn_55 rfl (lv_at hl 1 rfl) ?_
          refine lv_aload_n hx0 hb dX12_scansOn_56 rfl (lv_at hl 1 rfl) ?_
          refine gtX12_16 C hW flX12_36 dX12_scansOn_57 ?_
          refine lv_iconst (v := (4 : Int32)) hx0 hb dX12_scansOn_60 (by decide) ?_
          refine lv_iload hx0 hb dX12_scansOn_61 (lv_at hl 0 rfl) ?_
          refine lv_imul hx0 hb dX12_scansOn_63 ?_
          by_cases z64 : ((4 : Int32) * (σ 12 x5.toNatClampNeg)) < 0 ∨ lm 8 ≤ ((4 : Int32) * (σ 12 x5.toNatClampNeg)).toNatClampNeg
          · rw [if_pos z64] at h; cases h
          rw [if_neg z64] at h
          refine ldIm (k := 8) C hW (by decide) z64 dX12_scansOn_64 ?_
          refine lv_aload_n hx0 hb dX12_scansOn_65 rfl (lv_at hl 1 rfl) ?_
          refine gtX12_16 C hW flX12_36 dX12_scansOn_66 ?_
          refine lv_iconst (v := (4 : Int32)) hx0 hb dX12_scansOn_69 (by decide) ?_
          refine lv_iload hx0 hb dX12_scansOn_70 (lv_at hl 0 rfl) ?_
          refine lv_imul hx0 hb dX12_scansOn_72 ?_
          refine lv_iconst (v := (1 : Int32)) hx0 hb dX12_scansOn_73 (by decide) ?_
          refine lv_iadd hx0 hb dX12_scansOn_74 ?_
          by_cases z75 : (((4 : Int32) * (σ 12 x5.toNatClampNeg)) + (1 : Int32)) < 0 ∨ lm 8 ≤ (((4 : Int32) * (σ 12 x5.toNatClampNeg)) + (1 : Int32)).toNatClampNeg
          · rw [if_pos z75] at h; cases h
          rw [if_neg z75] at h
          refine ldIm (k := 8) C hW (by decide) z75 dX12_scansOn_75 ?_
          obtain ⟨v76, h76, h⟩ := bnd h
          try dsimp only at h
          refine w_callV (L := (LM E b)) (k := 0) (As := [.int (σ 8 ((4 : Int32) * (σ 12 x5.toNatClampNeg)).toNatClampNeg), .int (σ 8 (((4 : Int32) * (σ 12 x5.toNatClampNeg)) + (1 : Int32)).toNatClampNeg)]) (rest := []) C hW hS (show 0 < 18 by decide) cm0 kcX12 (mX12_openingOf (σ 8 ((4 : Int32) * (σ 12 x5.toNatClampNeg)).toNatClampNeg) (σ 8 (((4 : Int32) * (σ 12 x5.toNatClampNeg)) + (1 : Int32)).toNatClampNeg)  σ v76 h76) cwX12_openingOf cvX12_openingOf rfl mlX12_363 ⟨by decide, by decide⟩ rfl hl.1 (Nat.le_of_ble_eq_true rfl) ⟨by decide, by decide⟩ dX12_scansOn_76 rfl (fun H locs hW hS => ?_)
          refine lv_iload_n hx0 hb dX12_scansOn_79 rfl (lv_at hl 2 rfl) ?_
          refine lv_icmp_ne (tgt := 87) hx0 hb dX12_scansOn_80 (by decide) (fun c80 => ?_) (fun c80 => ?_)
          · rw [if_neg c80] at h
            refine lv_iconst (v := (0 : Int32)) hx0 hb dX12_scansOn_87 (by decide) ?_
            refine lv_istore (lv' := [(4, .int (0 : Int32)), (6, .int (σ 12 x5.toNatClampNeg)), (0, .ref (b + 0)), (1, .int x1), (2, .int x2), (3, .int x3), (5, .int x5)]) hx0 hb dX12_scansOn_88 hl (by decide) rfl (fun ls hl => ?_)
            refine lv_iinc (v := x5 + (1 : Int32)) (lv' := [(5, .int (x5 + (1 : Int32))), (4, .int (0 : Int32)), (6, .int (σ 12 x5.toNatClampNeg)), (0, .ref (b + 0)), (1, .int x1), (2, .int x2), (3, .int x3)]) hx0 hb dX12_scansOn_90 hl (k := 6) rfl rfl (by decide) rfl (fun ls hl => ?_)
            refine lv_goto (tgt := 29) hx0 hb dX12_scansOn_93 (by decide) ?_
            exact ih (0 : Int32) (x5 + (1 : Int32)) h _ _ _ hW hS (lv_sub hl [3, 4, 5, 6, 1, 0] rfl)
          · rw [if_pos c80] at h
            refine lv_iconst (v := (1 : Int32)) hx0 hb dX12_scansOn_83 (by decide) ?_
            refine lv_goto (tgt := 88) hx0 hb dX12_scansOn_84 (by decide) ?_
            refine lv_istore (lv' := [(4, .int (1 : Int32)), (6, .int (σ 12 x5.toNatClampNeg)), (0, .ref (b + 0)), (1, .int x1), (2, .int x2), (3, .int x3), (5, .int x5)]) hx0 hb dX12_scansOn_88 hl (by decide) rfl (fun ls hl => ?_)
            refine lv_iinc (v := x5 + (1 : Int32)) (lv' := [(5, .int (x5 + (1 : Int32))), (4, .int (1 : Int32)), (6, .int (σ 12 x5.toNatClampNeg)), (0, .ref (b + 0)), (1, .int x1), (2, .int x2), (3, .int x3)]) hx0 hb dX12_scansOn_90 hl (k := 6) rfl rfl (by decide) rfl (fun ls hl => ?_)
            refine lv_goto (tgt := 29) hx0 hb dX12_scansOn_93 (by decide) ?_
            exact ih (1 : Int32) (x5 + (1 : Int32)) h _ _ _ hW hS (lv_sub hl [3, 4, 5, 6, 1, 0] rfl)
def fX12_scansOn_l8 (x1 : Int32) : Nat → Int32 → Int32 → Mem → Option (Int32 × Int32 × Mem)
  | 0, _, _, _ => none
  | n + 1, x2, x3, σ => if (2 : Int32) < 0 ∨ lm 3 ≤ (2 : Int32).toNatClampNeg then none else if (σ 3 (2 : Int32).toNatClampNeg) ≤ x3 then (some (x2, x3, σ)) else ((fX12_laysShown x3 σ).bind fun v20 => (fX12_scansOn_l29 x1 x2 x3 FU (0 : Int32) (0 : Int32) v20).bind fun q29 => if q29.1 = 0 then (fX12_scansOn_l8 x1 n (x2 + (0 : Int32)) (x3 + (1 : Int32)) v20) else (fX12_scansOn_l8 x1 n (x2 + (1 : Int32)) (x3 + (1 : Int32)) v20))
set_option maxRecDepth 100000 in
set_option maxHeartbeats 4000000 in
theorem bX12_scansOn_l8 {p : Program} {l : Launch} {e : Env} {s : State} {m : MethodId} {args : Array Value} {below : List Frame} {meth : Method} {c : Code} {E : Ev} {b : Nat} (C : Cx p l s m args meth c E cX12_scansOn 7 RX12 (some .int)) (x1 : Int32) {Qf : State → Prop} {q : Int32 × Int32 × Mem} (hx : ∀ H locs ls, Wd E (LM E b) q.2.2 H → va_S (La (LM E b)) s.heap H locs → lv_has ls 7 [(0, .ref (b + 0)), (1, .int x1), (2, .int q.1), (3, .int q.2.1)] → W p l e { frames := 3, cells := 0, slots := 0, locals := 68 } s m args below meth c H locs 0 0 Qf (F0 m 115 ls [])) : ∀ (n : Nat) (x2 : Int32) (x3 : Int32) (σ : Mem), fX12_scansOn_l8 x1 n x2 x3 σ = some q → ∀ (H : Heap) (locs : List Loc) (ls : Array Slot), Wd E (LM E b) σ H → va_S (La (LM E b)) s.heap H locs → lv_has ls 7 [(0, .ref (b + 0)), (1, .int x1), (2, .int x2), (3, .int x3)] → W p l e { frames := 3, cells := 0, slots := 0, locals := 68 } s m args below meth c H locs 0 0 Qf (F0 m 8 ls []) := by
  have hx0 := C.1
  have hb := C.2.1
  intro n
  induction n with
  | zero => intro x2 x3 σ h; simp [fX12_scansOn_l8] at h
  | succ n ih =>
    intro x2 x3 σ h H locs ls hW hS hl
    unfold fX12_scansOn_l8 at h
    refine lv_iload_n hx0 hb dX12_scansOn_8 rfl (lv_at hl 3 rfl) ?_
    refine lv_aload_n hx0 hb dX12_scansOn_9 rfl (lv_at hl 0 rfl) ?_
    refine gtX12_5 C hW flX12_20 dX12_scansOn_10 ?_
    refine lv_iconst (v := (2 : Int32)) hx0 hb dX12_scansOn_13 (by decide) ?_
    by_cases z14 : (2 : Int32) < 0 ∨ lm 3 ≤ (2 : Int32).toNatClampNeg
    · rw [if_pos z14] at h; cases h
    rw [if_neg z14] at h
    refine ldIm (k := 3) C hW (by decide) z14 dX12_scansOn_14 ?_
    refine lv_icmp_ge (tgt := 115) hx0 hb dX12_scansOn_15 (by decide) (fun c15 => ?_) (fun c15 => ?_)
    · rw [if_pos c15] at h
      cases h
      exact hx _ _ _ hW hS (lv_sub hl [0, 1, 2, 3] rfl)
    · rw [if_neg c15] at h
      refine lv_aload_n hx0 hb dX12_scansOn_18 rfl (lv_at hl 0 rfl) ?_
      refine lv_iload_n hx0 hb dX12_scansOn_19 rfl (lv_at hl 3 rfl) ?_
      obtain ⟨v20, h20, h⟩ := bnd h
      try dsimp only at h
      refine w_callV (L := (LM E b)) (k := 0) (As := [.int x3]) (rest := []) C hW hS (show 0 < 18 by decide) cm0 kcX12 (mX12_laysShown x3  σ v20 h20) cwX12_laysShown cvX12_laysShown rfl mlX12_275 ⟨by decide, by decide⟩ rfl hl.1 (Nat.le_of_ble_eq_true rfl) ⟨by decide, by decide⟩ dX12_scansOn_20 rfl (fun H locs hW hS => ?_)
      refine lv_iconst (v := (0 : Int32)) hx0 hb dX12_scansOn_23 (by decide) ?_
      refine lv_istore (lv' := [(4, .int (0 : Int32)), (0, .ref (b + 0)), (1, .int x1), (2, .int x2), (3, .int x3)]) hx0 hb dX12_scansOn_24 hl (by decide) rfl (fun ls hl => ?_)
      refine lv_iconst (v := (0 : Int32)) hx0 hb dX12_scansOn_26 (by decide) ?_
      refine lv_istore (lv' := [(5, .int (0 : Int32)), (4, .int (0 : Int32)), (0, .ref (b + 0)), (1, .int x1), (2, .int x2), (3, .int x3)]) hx0 hb dX12_scansOn_27 hl (by decide) rfl (fun ls hl => ?_)
      obtain ⟨q29, h29, h⟩ := bnd h
      try dsimp only at h
      refine bX12_scansOn_l29 C x1 x2 x3  v20 (q := q29) ?_ FU (0 : Int32) (0 : Int32) h29 _ _ _ hW hS (lv_sub hl [2, 3, 4, 5, 1, 0] rfl)
      intro H locs ls hW hS hl
      refine lv_iload_n hx0 hb dX12_scansOn_96 rfl (lv_at hl 2 rfl) ?_
      refine lv_iload hx0 hb dX12_scansOn_97 (lv_at hl 4 rfl) ?_
      refine lv_if_eq (tgt := 106) hx0 hb dX12_scansOn_99 (by decide) (fun c99 => ?_) (fun c99 => ?_)
      · rw [if_pos c99] at h
        refine lv_iconst (v := (0 : Int32)) hx0 hb dX12_scansOn_106 (by decide) ?_
        refine lv_iadd hx0 hb dX12_scansOn_107 ?_
        refine lv_istore_n (lv' := [(2, .int (x2 + (0 : Int32))), (0, .ref (b + 0)), (1, .int x1), (3, .int x3), (4, .int q29.1), (5, .int q29.2)]) hx0 hb dX12_scansOn_108 rfl hl (by decide) rfl (fun ls hl => ?_)
        refine lv_iinc (v := x3 + (1 : Int32)) (lv' := [(3, .int (x3 + (1 : Int32))), (2, .int (x2 + (0 : Int32))), (0, .ref (b + 0)), (1, .int x1), (4, .int q29.1), (5, .int q29.2)]) hx0 hb dX12_scansOn_109 hl (k := 3) rfl rfl (by decide) rfl (fun ls hl => ?_)
        refine lv_goto (tgt := 8) hx0 hb dX12_scansOn_112 (by decide) ?_
        exact ih (x2 + (0 : Int32)) (x3 + (1 : Int32)) v20 h _ _ _ hW hS (lv_sub hl [2, 3, 1, 0] rfl)
      · rw [if_neg c99] at h
        refine lv_iconst (v := (1 : Int32)) hx0 hb dX12_scansOn_102 (by decide) ?_
        refine lv_goto (tgt := 107) hx0 hb dX12_scansOn_103 (by decide) ?_
        refine lv_iadd hx0 hb dX12_scansOn_107 ?_
        refine lv_istore_n (lv' := [(2, .int (x2 + (1 : Int32))), (0, .ref (b + 0)), (1, .int x1), (3, .int x3), (4, .int q29.1), (5, .int q29.2)]) hx0 hb dX12_scansOn_108 rfl hl (by decide) rfl (fun ls hl => ?_)
        refine lv_iinc (v := x3 + (1 : Int32)) (lv' := [(3, .int (x3 + (1 : Int32))), (2, .int (x2 + (1 : Int32))), (0, .ref (b + 0)), (1, .int x1), (4, .int q29.1), (5, .int q29.2)]) hx0 hb dX12_scansOn_109 hl (k := 3) rfl rfl (by decide) rfl (fun ls hl => ?_)
        refine lv_goto (tgt := 8) hx0 hb dX12_scansOn_112 (by decide) ?_
        exact ih (x2 + (1 : Int32)) (x3 + (1 : Int32)) v20 h _ _ _ hW hS (lv_sub hl [2, 3, 1, 0] rfl)
def fX12_scansOn (x1 : Int32) (σ : Mem) : Option (Int32 × Mem) :=
  (fX12_laysOrder σ).bind fun v1 => (fX12_scansOn_l8 x1 FU (0 : Int32) (0 : Int32) v1).bind fun q8 => some (q8.1, q8.2.2)
set_option maxRecDepth 100000 in
set_option maxHeartbeats 4000000 in
theorem mX12_scansOn {l : Launch} {E : Ev} {b : Nat} (x1 : Int32) (σ : Mem) (r : (Int32 × Mem)) (h : fX12_scansOn x1 σ = some r) : Met l yX12_scansOn (tw yX12_scansOn cX12_scansOn 7 (some .int)) { frames := 3, cells := 0, slots := 0, locals := 68 } (va_Pc [.ref (b + 0), .int x1] (Pr l E (LM E b) σ)) (Qz E (LM E b) (some (.int r.1)) r.2) 0 0 (La (LM E b)) := by
  refine ct_of (by decide) (Nat.le_of_ble_eq_true rfl) ?_
  intro p e s m below meth c C hW hS ls hl
  have hx0 := C.1
  have hb := C.2.1
  have hl : lv_has ls 7 [(0, .ref (b + 0)), (1, .int x1)] := hl
  unfold fX12_scansOn at h
  refine lv_aload_n hx0 hb dX12_scansOn_0 rfl (lv_at hl 0 rfl) ?_
  obtain ⟨v1, h1, h⟩ := bnd h
  try dsimp only at h
  refine w_callV (L := (LM E b)) (k := 0) (As := []) (rest := []) C hW hS (show 0 < 18 by decide) cm0 kcX12 (mX12_laysOrder   σ v1 h1) cwX12_laysOrder cvX12_laysOrder rfl mlX12_239 ⟨by decide, by decide⟩ rfl hl.1 (Nat.le_of_ble_eq_true rfl) ⟨by decide, by decide⟩ dX12_scansOn_1 rfl (fun H locs hW hS => ?_)
  refine lv_iconst (v := (0 : Int32)) hx0 hb dX12_scansOn_4 (by decide) ?_
  refine lv_istore_n (lv' := [(2, .int (0 : Int32)), (0, .ref (b + 0)), (1, .int x1)]) hx0 hb dX12_scansOn_5 rfl hl (by decide) rfl (fun ls hl => ?_)
  refine lv_iconst (v := (0 : Int32)) hx0 hb dX12_scansOn_6 (by decide) ?_
  refine lv_istore_n (lv' := [(3, .int (0 : Int32)), (2, .int (0 : Int32)), (0, .ref (b + 0)), (1, .int x1)]) hx0 hb dX12_scansOn_7 rfl hl (by decide) rfl (fun ls hl => ?_)
  obtain ⟨q8, h8, h⟩ := bnd h
  try dsimp only at h
  refine bX12_scansOn_l8 C x1  (q := q8) ?_ FU (0 : Int32) (0 : Int32) v1 h8 _ _ _ hW hS (lv_sub hl [2, 3, 1, 0] rfl)
  intro H locs ls hW hS hl
  refine lv_iload_n hx0 hb dX12_scansOn_115 rfl (lv_at hl 2 rfl) ?_
  cases h
  exact w_iret C hW hS dX12_scansOn_116
def fX12_opening (x1 : Int32) (x2 : Int32) (σ : Mem) : Option (Int32 × Mem) :=
  (fX12_isOpening x1 (up σ 0 0 (0 : Int32))).bind fun v7 => if v7 = 0 then ((fX12_fails (1 : Int32) (up σ 0 0 (0 : Int32))).bind fun v15 => some (v15.1, v15.2)) else ((fX12_leftOf x1 (up σ 0 0 (0 : Int32))).bind fun v21 => (fX12_rightOf x1 (up σ 0 0 (0 : Int32))).bind fun v27 => if x2 = (0 : Int32) then (some (v21, up σ 0 0 (0 : Int32))) else (if x2 = (1 : Int32) then (some (v27, up σ 0 0 (0 : Int32))) else (if x2 = (2 : Int32) then ((fX12_gapOf x1 (up σ 0 0 (0 : Int32))).bind fun v75 => some (v75, up σ 0 0 (0 : Int32))) else (if x2 = (3 : Int32) then (if v21 = (-1 : Int32) then (if v27 = (-1 : Int32) then (some ((0 : Int32) + (0 : Int32), up σ 0 0 (0 : Int32))) else ((fX12_allOn v27 (0 : Int32) (up σ 0 0 (0 : Int32))).bind fun v108 => some ((0 : Int32) + v108, up σ 0 0 (0 : Int32)))) else ((fX12_allOn v21 (1 : Int32) (up σ 0 0 (0 : Int32))).bind fun v91 => if v27 = (-1 : Int32) then (some (v91 + (0 : Int32), up σ 0 0 (0 : Int32))) else ((fX12_allOn v27 (0 : Int32) (up σ 0 0 (0 : Int32))).bind fun v108 => some (v91 + v108, up σ 0 0 (0 : Int32))))) else (if x2 = (4 : Int32) then ((fX12_scansOn x1 (up σ 0 0 (0 : Int32))).bind fun v115 => some (v115.1, v115.2)) else ((fX12_fails (2 : Int32) (up σ 0 0 (0 : Int32))).bind fun v121 => some (v121.1, v121.2)))))))
set_option maxRecDepth 100000 in
set_option maxHeartbeats 4000000 in
theorem mX12_opening {l : Launch} {E : Ev} {b : Nat} (x1 : Int32) (x2 : Int32) (σ : Mem) (r : (Int32 × Mem)) (h : fX12_opening x1 x2 σ = some r) : Met l yX12_opening (tw yX12_opening cX12_opening 5 (some .int)) { frames := 4, cells := 0, slots := 0, locals := 94 } (va_Pc [.ref (b + 0), .int x1, .int x2] (Pr l E (LM E b) σ)) (Qz E (LM E b) (some (.int r.1)) r.2) 0 0 (La (LM E b)) := by
  refine ct_of (by decide) (Nat.le_of_ble_eq_true rfl) ?_
  intro p e s m below meth c C hW hS ls hl
  have hx0 := C.1
  have hb := C.2.1
  have hl : lv_has ls 5 [(0, .ref (b + 0)), (1, .int x1), (2, .int x2)] := hl
  unfold fX12_opening at h
  refine lv_aload_n hx0 hb dX12_opening_0 rfl (lv_at hl 0 rfl) ?_
  refine lv_iconst (v := (0 : Int32)) hx0 hb dX12_opening_1 (by decide) ?_
  refine ptX12_0 C hW hS flX12_3 dX12_opening_2 (fun H locs hW hS => ?_)
  refine lv_aload_n hx0 hb dX12_opening_5 rfl (lv_at hl 0 rfl) ?_
  refine lv_iload_n hx0 hb dX12_opening_6 rfl (lv_at hl 1 rfl) ?_
  obtain ⟨v7, h7, h⟩ := bnd h
  try dsimp only at h
  refine w_callV (L := (LM E b)) (k := 0) (As := [.int x1]) (rest := []) C hW hS (show 0 < 18 by decide) cm0 kcX12 (mX12_isOpening x1  (up σ 0 0 (0 : Int32)) v7 h7) cwX12_isOpening cvX12_isOpening rfl mlX12_327 ⟨by decide, by decide⟩ rfl hl.1 (Nat.le_of_ble_eq_true rfl) ⟨by decide, by decide⟩ dX12_opening_7 rfl (fun H locs hW hS => ?_)
  refine lv_if_ne (tgt := 19) hx0 hb dX12_opening_10 (by decide) (fun c10 => ?_) (fun c10 => ?_)
  · rw [if_neg c10] at h
    refine lv_aload_n hx0 hb dX12_opening_19 rfl (lv_at hl 0 rfl) ?_
    refine lv_iload_n hx0 hb dX12_opening_20 rfl (lv_at hl 1 rfl) ?_
    obtain ⟨v21, h21, h⟩ := bnd h
    try dsimp only at h
    refine w_callV (L := (LM E b)) (k := 0) (As := [.int x1]) (rest := []) C hW hS (show 0 < 18 by decide) cm0 kcX12 (mX12_leftOf x1  (up σ 0 0 (0 : Int32)) v21 h21) cwX12_leftOf cvX12_leftOf rfl mlX12_330 ⟨by decide, by decide⟩ rfl hl.1 (Nat.le_of_ble_eq_true rfl) ⟨by decide, by decide⟩ dX12_opening_21 rfl (fun H locs hW hS => ?_)
    refine lv_istore_n (lv' := [(3, .int v21), (0, .ref (b + 0)), (1, .int x1), (2, .int x2)]) hx0 hb dX12_opening_24 rfl hl (by decide) rfl (fun ls hl => ?_)
    refine lv_aload_n hx0 hb dX12_opening_25 rfl (lv_at hl 1 rfl) ?_
    refine lv_iload_n hx0 hb dX12_opening_26 rfl (lv_at hl 2 rfl) ?_
    obtain ⟨v27, h27, h⟩ := bnd h
    try dsimp only at h
    refine w_callV (L := (LM E b)) (k := 0) (As := [.int x1]) (rest := []) C hW hS (show 0 < 18 by decide) cm0 kcX12 (mX12_rightOf x1  (up σ 0 0 (0 : Int32)) v27 h27) cwX12_rightOf cvX12_rightOf rfl mlX12_333 ⟨by decide, by decide⟩ rfl hl.1 (Nat.le_of_ble_eq_true rfl) ⟨by decide, by decide⟩ dX12_opening_27 rfl (fun H locs hW hS => ?_)
    refine lv_istore (lv' := [(4, .int v27), (3, .int v21), (0, .ref (b + 0)), (1, .int x1), (2, .int x2)]) hx0 hb dX12_opening_30 hl (by decide) rfl (fun ls hl => ?_)
    refine lv_iload_n hx0 hb dX12_opening_32 rfl (lv_at hl 4 rfl) ?_
    by_cases q33_0 : x2 = (0 : Int32)
    · rw [if_pos q33_0] at h
      refine lv_tableIn (tgt := 68) hx0 hb dX12_opening_33 (by rw [q33_0]; decide) (by rw [q33_0]; decide) (by rw [q33_0]; rfl) (by decide) ?_
      refine lv_iload_n hx0 hb dX12_opening_68 rfl (lv_at hl 1 rfl) ?_
      cases h
      exact w_iret C hW hS dX12_opening_69
    rw [if_neg q33_0] at h
    by_cases q33_1 : x2 = (1 : Int32)
    · rw [if_pos q33_1] at h
      refine lv_tableIn (tgt := 70) hx0 hb dX12_opening_33 (by rw [q33_1]; decide) (by rw [q33_1]; decide) (by rw [q33_1]; rfl) (by decide) ?_
      refine lv_iload hx0 hb dX12_opening_70 (lv_at hl 0 rfl) ?_
      cases h
      exact w_iret C hW hS dX12_opening_72
    rw [if_neg q33_1] at h
    by_cases q33_2 : x2 = (2 : Int32)
    · rw [if_pos q33_2] at h
      refine lv_tableIn (tgt := 73) hx0 hb dX12_opening_33 (by rw [q33_2]; decide) (by rw [q33_2]; decide) (by rw [q33_2]; rfl) (by decide) ?_
      refine lv_aload_n hx0 hb dX12_opening_73 rfl (lv_at hl 2 rfl) ?_
      refine lv_iload_n hx0 hb dX12_opening_74 rfl (lv_at hl 3 rfl) ?_
      obtain ⟨v75, h75, h⟩ := bnd h
      try dsimp only at h
      refine w_callV (L := (LM E b)) (k := 0) (As := [.int x1]) (rest := []) C hW hS (show 0 < 18 by decide) cm0 kcX12 (mX12_gapOf x1  (up σ 0 0 (0 : Int32)) v75 h75) cwX12_gapOf cvX12_gapOf rfl mlX12_387 ⟨by decide, by decide⟩ rfl hl.1 (Nat.le_of_ble_eq_true rfl) ⟨by decide, by decide⟩ dX12_opening_75 rfl (fun H locs hW hS => ?_)
      cases h
      exact w_iret C hW hS dX12_opening_78
    rw [if_neg q33_2] at h
    by_cases q33_3 : x2 = (3 : Int32)
    · rw [if_pos q33_3] at h
      refine lv_tableIn (tgt := 79) hx0 hb dX12_opening_33 (by rw [q33_3]; decide) (by rw [q33_3]; decide) (by rw [q33_3]; rfl) (by decide) ?_
      refine lv_iload_n hx0 hb dX12_opening_79 rfl (lv_at hl 1 rfl) ?_
      refine lv_iconst (v := (-1 : Int32)) hx0 hb dX12_opening_80 (by decide) ?_
      refine lv_icmp_ne (tgt := 88) hx0 hb dX12_opening_81 (by decide) (fun c81 => ?_) (fun c81 => ?_)
      · rw [if_neg c81] at h
        refine lv_aload_n hx0 hb dX12_opening_88 rfl (lv_at hl 2 rfl) ?_
        refine lv_iload_n hx0 hb dX12_opening_89 rfl (lv_at hl 1 rfl) ?_
        refine lv_iconst (v := (1 : Int32)) hx0 hb dX12_opening_90 (by decide) ?_
        obtain ⟨v91, h91, h⟩ := bnd h
        try dsimp only at h
        refine w_callV (L := (LM E b)) (k := 0) (As := [.int v21, .int (1 : Int32)]) (rest := []) C hW hS (show 0 < 18 by decide) cm0 kcX12 (mX12_allOn v21 (1 : Int32)  (up σ 0 0 (0 : Int32)) v91 h91) cwX12_allOn cvX12_allOn rfl mlX12_300 ⟨by decide, by decide⟩ rfl hl.1 (Nat.le_of_ble_eq_true rfl) ⟨by decide, by decide⟩ dX12_opening_91 rfl (fun H locs hW hS => ?_)
        refine lv_iload hx0 hb dX12_opening_94 (lv_at hl 0 rfl) ?_
        refine lv_iconst (v := (-1 : Int32)) hx0 hb dX12_opening_96 (by decide) ?_
        refine lv_icmp_ne (tgt := 104) hx0 hb dX12_opening_97 (by decide) (fun c97 => ?_) (fun c97 => ?_)
        · rw [if_neg c97] at h
          refine lv_aload_n hx0 hb dX12_opening_104 rfl (lv_at hl 2 rfl) ?_
          refine lv_iload hx0 hb dX12_opening_105 (lv_at hl 0 rfl) ?_
          refine lv_iconst (v := (0 : Int32)) hx0 hb dX12_opening_107 (by decide) ?_
          obtain ⟨v108, h108, h⟩ := bnd h
          try dsimp only at h
          refine w_callV (L := (LM E b)) (k := 0) (As := [.int v27, .int (0 : Int32)]) (rest := [.int v91]) C hW hS (show 0 < 18 by decide) cm0 kcX12 (mX12_allOn v27 (0 : Int32)  (up σ 0 0 (0 : Int32)) v108 h108) cwX12_allOn cvX12_allOn rfl mlX12_300 ⟨by decide, by decide⟩ rfl hl.1 (Nat.le_of_ble_eq_true rfl) ⟨by decide, by decide⟩ dX12_opening_108 rfl (fun H locs hW hS => ?_)
          refine lv_iadd hx0 hb dX12_opening_111 ?_
          cases h
          exact w_iret C hW hS dX12_opening_112
        · rw [if_pos c97] at h
          refine lv_iconst (v := (0 : Int32)) hx0 hb dX12_opening_100 (by decide) ?_
          refine lv_goto (tgt := 111) hx0 hb dX12_opening_101 (by decide) ?_
          refine lv_iadd hx0 hb dX12_opening_111 ?_
          cases h
          exact w_iret C hW hS dX12_opening_112
      · rw [if_pos c81] at h
        refine lv_iconst (v := (0 : Int32)) hx0 hb dX12_opening_84 (by decide) ?_
        refine lv_goto (tgt := 94) hx0 hb dX12_opening_85 (by decide) ?_
        refine lv_iload hx0 hb dX12_opening_94 (lv_at hl 0 rfl) ?_
        refine lv_iconst (v := (-1 : Int32)) hx0 hb dX12_opening_96 (by decide) ?_
        refine lv_icmp_ne (tgt := 104) hx0 hb dX12_opening_97 (by decide) (fun c97 => ?_) (fun c97 => ?_)
        · rw [if_neg c97] at h
          refine lv_aload_n hx0 hb dX12_opening_104 rfl (lv_at hl 2 rfl) ?_
          refine lv_iload hx0 hb dX12_opening_105 (lv_at hl 0 rfl) ?_
          refine lv_iconst (v := (0 : Int32)) hx0 hb dX12_opening_107 (by decide) ?_
          obtain ⟨v108, h108, h⟩ := bnd h
          try dsimp only at h
          refine w_callV (L := (LM E b)) (k := 0) (As := [.int v27, .int (0 : Int32)]) (rest := [.int (0 : Int32)]) C hW hS (show 0 < 18 by decide) cm0 kcX12 (mX12_allOn v27 (0 : Int32)  (up σ 0 0 (0 : Int32)) v108 h108) cwX12_allOn cvX12_allOn rfl mlX12_300 ⟨by decide, by decide⟩ rfl hl.1 (Nat.le_of_ble_eq_true rfl) ⟨by decide, by decide⟩ dX12_opening_108 rfl (fun H locs hW hS => ?_)
          refine lv_iadd hx0 hb dX12_opening_111 ?_
          cases h
          exact w_iret C hW hS dX12_opening_112
        · rw [if_pos c97] at h
          refine lv_iconst (v := (0 : Int32)) hx0 hb dX12_opening_100 (by decide) ?_
          refine lv_goto (tgt := 111) hx0 hb dX12_opening_101 (by decide) ?_
          refine lv_iadd hx0 hb dX12_opening_111 ?_
          cases h
          exact w_iret C hW hS dX12_opening_112
    rw [if_neg q33_3] at h
    by_cases q33_4 : x2 = (4 : Int32)
    · rw [if_pos q33_4] at h
      refine lv_tableIn (tgt := 113) hx0 hb dX12_opening_33 (by rw [q33_4]; decide) (by rw [q33_4]; decide) (by rw [q33_4]; rfl) (by decide) ?_
      refine lv_aload_n hx0 hb dX12_opening_113 rfl (lv_at hl 2 rfl) ?_
      refine lv_iload_n hx0 hb dX12_opening_114 rfl (lv_at hl 3 rfl) ?_
      obtain ⟨v115, h115, h⟩ := bnd h
      try dsimp only at h
      refine w_callV (L := (LM E b)) (k := 0) (As := [.int x1]) (rest := []) C hW hS (show 0 < 18 by decide) cm0 kcX12 (mX12_scansOn x1  (up σ 0 0 (0 : Int32)) v115 h115) cwX12_scansOn cvX12_scansOn rfl mlX12_390 ⟨by decide, by decide⟩ rfl hl.1 (Nat.le_of_ble_eq_true rfl) ⟨by decide, by decide⟩ dX12_opening_115 rfl (fun H locs hW hS => ?_)
      cases h
      exact w_iret C hW hS dX12_opening_118
    rw [if_neg q33_4] at h
    refine lv_tableOut (tgt := 119) hx0 hb dX12_opening_33 (tab5 q33_0 q33_1 q33_2 q33_3 q33_4) (by decide) ?_
    refine lv_aload_n hx0 hb dX12_opening_119 rfl (lv_at hl 2 rfl) ?_
    refine lv_iconst (v := (2 : Int32)) hx0 hb dX12_opening_120 (by decide) ?_
    obtain ⟨v121, h121, h⟩ := bnd h
    try dsimp only at h
    refine w_callV (L := (LM E b)) (k := 0) (As := [.int (2 : Int32)]) (rest := []) C hW hS (show 0 < 18 by decide) cm0 kcX12 (mX12_fails (2 : Int32)  (up σ 0 0 (0 : Int32)) v121 h121) cwX12_fails cvX12_fails rfl mlX12_94 ⟨by decide, by decide⟩ rfl hl.1 (Nat.le_of_ble_eq_true rfl) ⟨by decide, by decide⟩ dX12_opening_121 rfl (fun H locs hW hS => ?_)
    cases h
    exact w_iret C hW hS dX12_opening_124
  · rw [if_pos c10] at h
    refine lv_aload_n hx0 hb dX12_opening_13 rfl (lv_at hl 0 rfl) ?_
    refine lv_iconst (v := (1 : Int32)) hx0 hb dX12_opening_14 (by decide) ?_
    obtain ⟨v15, h15, h⟩ := bnd h
    try dsimp only at h
    refine w_callV (L := (LM E b)) (k := 0) (As := [.int (1 : Int32)]) (rest := []) C hW hS (show 0 < 18 by decide) cm0 kcX12 (mX12_fails (1 : Int32)  (up σ 0 0 (0 : Int32)) v15 h15) cwX12_fails cvX12_fails rfl mlX12_94 ⟨by decide, by decide⟩ rfl hl.1 (Nat.le_of_ble_eq_true rfl) ⟨by decide, by decide⟩ dX12_opening_15 rfl (fun H locs hW hS => ?_)
    cases h
    exact w_iret C hW hS dX12_opening_18
def fX12_view (σ : Mem) : Option (Int32 × Mem) :=
  if (3 : Int32) < 0 ∨ lm 3 ≤ (3 : Int32).toNatClampNeg then none else some ((up σ 0 0 (0 : Int32)) 3 (3 : Int32).toNatClampNeg, up σ 0 0 (0 : Int32))
set_option maxRecDepth 100000 in
set_option maxHeartbeats 4000000 in
theorem mX12_view {l : Launch} {E : Ev} {b : Nat} (σ : Mem) (r : (Int32 × Mem)) (h : fX12_view σ = some r) : Met l yX12_view (tw yX12_view cX12_view 1 (some .int)) { frames := 0, cells := 0, slots := 0, locals := 0 } (va_Pc [.ref (b + 0)] (Pr l E (LM E b) σ)) (Qz E (LM E b) (some (.int r.1)) r.2) 0 0 (La (LM E b)) := by
  refine ct_of (by decide) (Nat.le_of_ble_eq_true rfl) ?_
  intro p e s m below meth c C hW hS ls hl
  have hx0 := C.1
  have hb := C.2.1
  have hl : lv_has ls 1 [(0, .ref (b + 0))] := hl
  unfold fX12_view at h
  refine lv_aload_n hx0 hb dX12_view_0 rfl (lv_at hl 0 rfl) ?_
  refine lv_iconst (v := (0 : Int32)) hx0 hb dX12_view_1 (by decide) ?_
  refine ptX12_0 C hW hS flX12_3 dX12_view_2 (fun H locs hW hS => ?_)
  refine lv_aload_n hx0 hb dX12_view_5 rfl (lv_at hl 0 rfl) ?_
  refine gtX12_5 C hW flX12_20 dX12_view_6 ?_
  refine lv_iconst (v := (3 : Int32)) hx0 hb dX12_view_9 (by decide) ?_
  by_cases z10 : (3 : Int32) < 0 ∨ lm 3 ≤ (3 : Int32).toNatClampNeg
  · rw [if_pos z10] at h; cases h
  rw [if_neg z10] at h
  refine ldIm (k := 3) C hW (by decide) z10 dX12_view_10 ?_
  cases h
  exact w_iret C hW hS dX12_view_11
def fX12_trailLength (σ : Mem) : Option (Int32 × Mem) :=
  if (4 : Int32) < 0 ∨ lm 3 ≤ (4 : Int32).toNatClampNeg then none else some ((up σ 0 0 (0 : Int32)) 3 (4 : Int32).toNatClampNeg, up σ 0 0 (0 : Int32))
set_option maxRecDepth 100000 in
set_option maxHeartbeats 4000000 in
theorem mX12_trailLength {l : Launch} {E : Ev} {b : Nat} (σ : Mem) (r : (Int32 × Mem)) (h : fX12_trailLength σ = some r) : Met l yX12_trailLength (tw yX12_trailLength cX12_trailLength 1 (some .int)) { frames := 0, cells := 0, slots := 0, locals := 0 } (va_Pc [.ref (b + 0)] (Pr l E (LM E b) σ)) (Qz E (LM E b) (some (.int r.1)) r.2) 0 0 (La (LM E b)) := by
  refine ct_of (by decide) (Nat.le_of_ble_eq_true rfl) ?_
  intro p e s m below meth c C hW hS ls hl
  have hx0 := C.1
  have hb := C.2.1
  have hl : lv_has ls 1 [(0, .ref (b + 0))] := hl
  unfold fX12_trailLength at h
  refine lv_aload_n hx0 hb dX12_trailLength_0 rfl (lv_at hl 0 rfl) ?_
  refine lv_iconst (v := (0 : Int32)) hx0 hb dX12_trailLength_1 (by decide) ?_
  refine ptX12_0 C hW hS flX12_3 dX12_trailLength_2 (fun H locs hW hS => ?_)
  refine lv_aload_n hx0 hb dX12_trailLength_5 rfl (lv_at hl 0 rfl) ?_
  refine gtX12_5 C hW flX12_20 dX12_trailLength_6 ?_
  refine lv_iconst (v := (4 : Int32)) hx0 hb dX12_trailLength_9 (by decide) ?_
  by_cases z10 : (4 : Int32) < 0 ∨ lm 3 ≤ (4 : Int32).toNatClampNeg
  · rw [if_pos z10] at h; cases h
  rw [if_neg z10] at h
  refine ldIm (k := 3) C hW (by decide) z10 dX12_trailLength_10 ?_
  cases h
  exact w_iret C hW hS dX12_trailLength_11
def fX12_scanCount (σ : Mem) : Option (Int32 × Mem) :=
  if (2 : Int32) < 0 ∨ lm 3 ≤ (2 : Int32).toNatClampNeg then none else some ((up σ 0 0 (0 : Int32)) 3 (2 : Int32).toNatClampNeg, up σ 0 0 (0 : Int32))
set_option maxRecDepth 100000 in
set_option maxHeartbeats 4000000 in
theorem mX12_scanCount {l : Launch} {E : Ev} {b : Nat} (σ : Mem) (r : (Int32 × Mem)) (h : fX12_scanCount σ = some r) : Met l yX12_scanCount (tw yX12_scanCount cX12_scanCount 1 (some .int)) { frames := 0, cells := 0, slots := 0, locals := 0 } (va_Pc [.ref (b + 0)] (Pr l E (LM E b) σ)) (Qz E (LM E b) (some (.int r.1)) r.2) 0 0 (La (LM E b)) := by
  refine ct_of (by decide) (Nat.le_of_ble_eq_true rfl) ?_
  intro p e s m below meth c C hW hS ls hl
  have hx0 := C.1
  have hb := C.2.1
  have hl : lv_has ls 1 [(0, .ref (b + 0))] := hl
  unfold fX12_scanCount at h
  refine lv_aload_n hx0 hb dX12_scanCount_0 rfl (lv_at hl 0 rfl) ?_
  refine lv_iconst (v := (0 : Int32)) hx0 hb dX12_scanCount_1 (by decide) ?_
  refine ptX12_0 C hW hS flX12_3 dX12_scanCount_2 (fun H locs hW hS => ?_)
  refine lv_aload_n hx0 hb dX12_scanCount_5 rfl (lv_at hl 0 rfl) ?_
  refine gtX12_5 C hW flX12_20 dX12_scanCount_6 ?_
  refine lv_iconst (v := (2 : Int32)) hx0 hb dX12_scanCount_9 (by decide) ?_
  by_cases z10 : (2 : Int32) < 0 ∨ lm 3 ≤ (2 : Int32).toNatClampNeg
  · rw [if_pos z10] at h; cases h
  rw [if_neg z10] at h
  refine ldIm (k := 3) C hW (by decide) z10 dX12_scanCount_10 ?_
  cases h
  exact w_iret C hW hS dX12_scanCount_11
def fX12_scan (x1 : Int32) (x2 : Int32) (σ : Mem) : Option (Int32 × Mem) :=
  (fX12_isScan x1 (up σ 0 0 (0 : Int32))).bind fun v7 => if v7 = 0 then ((fX12_fails (1 : Int32) (up σ 0 0 (0 : Int32))).bind fun v15 => some (v15.1, v15.2)) else ((fX12_laysOrder (up σ 0 0 (0 : Int32))).bind fun v20 => if x2 = (0 : Int32) then ((fX12_ofScan x1 (0 : Int32) v20).bind fun v59 => some (v59, v20)) else (if x2 = (1 : Int32) then ((fX12_placeOfScan x1 v20).bind fun v65 => some (v65.1, v65.2)) else (if x2 = (2 : Int32) then ((fX12_ofScan x1 (1 : Int32) v20).bind fun v72 => some (v72, v20)) else (if x2 = (3 : Int32) then ((fX12_ofScan x1 (2 : Int32) v20).bind fun v79 => some (v79, v20)) else ((fX12_fails (2 : Int32) v20).bind fun v85 => some (v85.1, v85.2))))))
set_option maxRecDepth 100000 in
set_option maxHeartbeats 4000000 in
theorem mX12_scan {l : Launch} {E : Ev} {b : Nat} (x1 : Int32) (x2 : Int32) (σ : Mem) (r : (Int32 × Mem)) (h : fX12_scan x1 x2 σ = some r) : Met l yX12_scan (tw yX12_scan cX12_scan 3 (some .int)) { frames := 3, cells := 0, slots := 0, locals := 68 } (va_Pc [.ref (b + 0), .int x1, .int x2] (Pr l E (LM E b) σ)) (Qz E (LM E b) (some (.int r.1)) r.2) 0 0 (La (LM E b)) := by
  refine ct_of (by decide) (Nat.le_of_ble_eq_true rfl) ?_
  intro p e s m below meth c C hW hS ls hl
  have hx0 := C.1
  have hb := C.2.1
  have hl : lv_has ls 3 [(0, .ref (b + 0)), (1, .int x1), (2, .int x2)] := hl
  unfold fX12_scan at h
  refine lv_aload_n hx0 hb dX12_scan_0 rfl (lv_at hl 0 rfl) ?_
  refine lv_iconst (v := (0 : Int32)) hx0 hb dX12_scan_1 (by decide) ?_
  refine ptX12_0 C hW hS flX12_3 dX12_scan_2 (fun H locs hW hS => ?_)
  refine lv_aload_n hx0 hb dX12_scan_5 rfl (lv_at hl 0 rfl) ?_
  refine lv_iload_n hx0 hb dX12_scan_6 rfl (lv_at hl 1 rfl) ?_
  obtain ⟨v7, h7, h⟩ := bnd h
  try dsimp only at h
  refine w_callV (L := (LM E b)) (k := 0) (As := [.int x1]) (rest := []) C hW hS (show 0 < 18 by decide) cm0 kcX12 (mX12_isScan x1  (up σ 0 0 (0 : Int32)) v7 h7) cwX12_isScan cvX12_isScan rfl mlX12_339 ⟨by decide, by decide⟩ rfl hl.1 (Nat.le_of_ble_eq_true rfl) ⟨by decide, by decide⟩ dX12_scan_7 rfl (fun H locs hW hS => ?_)
  refine lv_if_ne (tgt := 19) hx0 hb dX12_scan_10 (by decide) (fun c10 => ?_) (fun c10 => ?_)
  · rw [if_neg c10] at h
    refine lv_aload_n hx0 hb dX12_scan_19 rfl (lv_at hl 0 rfl) ?_
    obtain ⟨v20, h20, h⟩ := bnd h
    try dsimp only at h
    refine w_callV (L := (LM E b)) (k := 0) (As := []) (rest := []) C hW hS (show 0 < 18 by decide) cm0 kcX12 (mX12_laysOrder   (up σ 0 0 (0 : Int32)) v20 h20) cwX12_laysOrder cvX12_laysOrder rfl mlX12_239 ⟨by decide, by decide⟩ rfl hl.1 (Nat.le_of_ble_eq_true rfl) ⟨by decide, by decide⟩ dX12_scan_20 rfl (fun H locs hW hS => ?_)
    refine lv_iload_n hx0 hb dX12_scan_23 rfl (lv_at hl 2 rfl) ?_
    by_cases q24_0 : x2 = (0 : Int32)
    · rw [if_pos q24_0] at h
      refine lv_tableIn (tgt := 56) hx0 hb dX12_scan_24 (by rw [q24_0]; decide) (by rw [q24_0]; decide) (by rw [q24_0]; rfl) (by decide) ?_
      refine lv_aload_n hx0 hb dX12_scan_56 rfl (lv_at hl 0 rfl) ?_
      refine lv_iload_n hx0 hb dX12_scan_57 rfl (lv_at hl 1 rfl) ?_
      refine lv_iconst (v := (0 : Int32)) hx0 hb dX12_scan_58 (by decide) ?_
      obtain ⟨v59, h59, h⟩ := bnd h
      try dsimp only at h
      refine w_callV (L := (LM E b)) (k := 0) (As := [.int x1, .int (0 : Int32)]) (rest := []) C hW hS (show 0 < 18 by decide) cm0 kcX12 (mX12_ofScan x1 (0 : Int32)  v20 v59 h59) cwX12_ofScan cvX12_ofScan rfl mlX12_266 ⟨by decide, by decide⟩ rfl hl.1 (Nat.le_of_ble_eq_true rfl) ⟨by decide, by decide⟩ dX12_scan_59 rfl (fun H locs hW hS => ?_)
      cases h
      exact w_iret C hW hS dX12_scan_62
    rw [if_neg q24_0] at h
    by_cases q24_1 : x2 = (1 : Int32)
    · rw [if_pos q24_1] at h
      refine lv_tableIn (tgt := 63) hx0 hb dX12_scan_24 (by rw [q24_1]; decide) (by rw [q24_1]; decide) (by rw [q24_1]; rfl) (by decide) ?_
      refine lv_aload_n hx0 hb dX12_scan_63 rfl (lv_at hl 0 rfl) ?_
      refine lv_iload_n hx0 hb dX12_scan_64 rfl (lv_at hl 1 rfl) ?_
      obtain ⟨v65, h65, h⟩ := bnd h
      try dsimp only at h
      refine w_callV (L := (LM E b)) (k := 0) (As := [.int x1]) (rest := []) C hW hS (show 0 < 18 by decide) cm0 kcX12 (mX12_placeOfScan x1  v20 v65 h65) cwX12_placeOfScan cvX12_placeOfScan rfl mlX12_291 ⟨by decide, by decide⟩ rfl hl.1 (Nat.le_of_ble_eq_true rfl) ⟨by decide, by decide⟩ dX12_scan_65 rfl (fun H locs hW hS => ?_)
      cases h
      exact w_iret C hW hS dX12_scan_68
    rw [if_neg q24_1] at h
    by_cases q24_2 : x2 = (2 : Int32)
    · rw [if_pos q24_2] at h
      refine lv_tableIn (tgt := 69) hx0 hb dX12_scan_24 (by rw [q24_2]; decide) (by rw [q24_2]; decide) (by rw [q24_2]; rfl) (by decide) ?_
      refine lv_aload_n hx0 hb dX12_scan_69 rfl (lv_at hl 0 rfl) ?_
      refine lv_iload_n hx0 hb dX12_scan_70 rfl (lv_at hl 1 rfl) ?_
      refine lv_iconst (v := (1 : Int32)) hx0 hb dX12_scan_71 (by decide) ?_
      obtain ⟨v72, h72, h⟩ := bnd h
      try dsimp only at h
      refine w_callV (L := (LM E b)) (k := 0) (As := [.int x1, .int (1 : Int32)]) (rest := []) C hW hS (show 0 < 18 by decide) cm0 kcX12 (mX12_ofScan x1 (1 : Int32)  v20 v72 h72) cwX12_ofScan cvX12_ofScan rfl mlX12_266 ⟨by decide, by decide⟩ rfl hl.1 (Nat.le_of_ble_eq_true rfl) ⟨by decide, by decide⟩ dX12_scan_72 rfl (fun H locs hW hS => ?_)
      cases h
      exact w_iret C hW hS dX12_scan_75
    rw [if_neg q24_2] at h
    by_cases q24_3 : x2 = (3 : Int32)
    · rw [if_pos q24_3] at h
      refine lv_tableIn (tgt := 76) hx0 hb dX12_scan_24 (by rw [q24_3]; decide) (by rw [q24_3]; decide) (by rw [q24_3]; rfl) (by decide) ?_
      refine lv_aload_n hx0 hb dX12_scan_76 rfl (lv_at hl 0 rfl) ?_
      refine lv_iload_n hx0 hb dX12_scan_77 rfl (lv_at hl 1 rfl) ?_
      refine lv_iconst (v := (2 : Int32)) hx0 hb dX12_scan_78 (by decide) ?_
      obtain ⟨v79, h79, h⟩ := bnd h
      try dsimp only at h
      refine w_callV (L := (LM E b)) (k := 0) (As := [.int x1, .int (2 : Int32)]) (rest := []) C hW hS (show 0 < 18 by decide) cm0 kcX12 (mX12_ofScan x1 (2 : Int32)  v20 v79 h79) cwX12_ofScan cvX12_ofScan rfl mlX12_266 ⟨by decide, by decide⟩ rfl hl.1 (Nat.le_of_ble_eq_true rfl) ⟨by decide, by decide⟩ dX12_scan_79 rfl (fun H locs hW hS => ?_)
      cases h
      exact w_iret C hW hS dX12_scan_82
    rw [if_neg q24_3] at h
    refine lv_tableOut (tgt := 83) hx0 hb dX12_scan_24 (tab4 q24_0 q24_1 q24_2 q24_3) (by decide) ?_
    refine lv_aload_n hx0 hb dX12_scan_83 rfl (lv_at hl 0 rfl) ?_
    refine lv_iconst (v := (2 : Int32)) hx0 hb dX12_scan_84 (by decide) ?_
    obtain ⟨v85, h85, h⟩ := bnd h
    try dsimp only at h
    refine w_callV (L := (LM E b)) (k := 0) (As := [.int (2 : Int32)]) (rest := []) C hW hS (show 0 < 18 by decide) cm0 kcX12 (mX12_fails (2 : Int32)  v20 v85 h85) cwX12_fails cvX12_fails rfl mlX12_94 ⟨by decide, by decide⟩ rfl hl.1 (Nat.le_of_ble_eq_true rfl) ⟨by decide, by decide⟩ dX12_scan_85 rfl (fun H locs hW hS => ?_)
    cases h
    exact w_iret C hW hS dX12_scan_88
  · rw [if_pos c10] at h
    refine lv_aload_n hx0 hb dX12_scan_13 rfl (lv_at hl 0 rfl) ?_
    refine lv_iconst (v := (1 : Int32)) hx0 hb dX12_scan_14 (by decide) ?_
    obtain ⟨v15, h15, h⟩ := bnd h
    try dsimp only at h
    refine w_callV (L := (LM E b)) (k := 0) (As := [.int (1 : Int32)]) (rest := []) C hW hS (show 0 < 18 by decide) cm0 kcX12 (mX12_fails (1 : Int32)  (up σ 0 0 (0 : Int32)) v15 h15) cwX12_fails cvX12_fails rfl mlX12_94 ⟨by decide, by decide⟩ rfl hl.1 (Nat.le_of_ble_eq_true rfl) ⟨by decide, by decide⟩ dX12_scan_15 rfl (fun H locs hW hS => ?_)
    cases h
    exact w_iret C hW hS dX12_scan_18
def fX12_showing (x1 : Int32) (σ : Mem) : Option (Int32 × Mem) :=
  (fX12_isPlace x1 (up σ 0 0 (0 : Int32))).bind fun v7 => if v7.1 = 0 then ((fX12_fails (1 : Int32) v7.2).bind fun v23 => some (v23.1, v23.2)) else ((fX12_showingOf x1 v7.2).bind fun v15 => some (v15.1, v15.2))
set_option maxRecDepth 100000 in
set_option maxHeartbeats 4000000 in
theorem mX12_showing {l : Launch} {E : Ev} {b : Nat} (x1 : Int32) (σ : Mem) (r : (Int32 × Mem)) (h : fX12_showing x1 σ = some r) : Met l yX12_showing (tw yX12_showing cX12_showing 2 (some .int)) { frames := 4, cells := 0, slots := 0, locals := 91 } (va_Pc [.ref (b + 0), .int x1] (Pr l E (LM E b) σ)) (Qz E (LM E b) (some (.int r.1)) r.2) 0 0 (La (LM E b)) := by
  refine ct_of (by decide) (Nat.le_of_ble_eq_true rfl) ?_
  intro p e s m below meth c C hW hS ls hl
  have hx0 := C.1
  have hb := C.2.1
  have hl : lv_has ls 2 [(0, .ref (b + 0)), (1, .int x1)] := hl
  unfold fX12_showing at h
  refine lv_aload_n hx0 hb dX12_showing_0 rfl (lv_at hl 0 rfl) ?_
  refine lv_iconst (v := (0 : Int32)) hx0 hb dX12_showing_1 (by decide) ?_
  refine ptX12_0 C hW hS flX12_3 dX12_showing_2 (fun H locs hW hS => ?_)
  refine lv_aload_n hx0 hb dX12_showing_5 rfl (lv_at hl 0 rfl) ?_
  refine lv_iload_n hx0 hb dX12_showing_6 rfl (lv_at hl 1 rfl) ?_
  obtain ⟨v7, h7, h⟩ := bnd h
  try dsimp only at h
  refine w_callV (L := (LM E b)) (k := 0) (As := [.int x1]) (rest := []) C hW hS (show 0 < 18 by decide) cm0 kcX12 (mX12_isPlace x1  (up σ 0 0 (0 : Int32)) v7 h7) cwX12_isPlace cvX12_isPlace rfl mlX12_360 ⟨by decide, by decide⟩ rfl hl.1 (Nat.le_of_ble_eq_true rfl) ⟨by decide, by decide⟩ dX12_showing_7 rfl (fun H locs hW hS => ?_)
  refine lv_if_eq (tgt := 21) hx0 hb dX12_showing_10 (by decide) (fun c10 => ?_) (fun c10 => ?_)
  · rw [if_pos c10] at h
    refine lv_aload_n hx0 hb dX12_showing_21 rfl (lv_at hl 0 rfl) ?_
    refine lv_iconst (v := (1 : Int32)) hx0 hb dX12_showing_22 (by decide) ?_
    obtain ⟨v23, h23, h⟩ := bnd h
    try dsimp only at h
    refine w_callV (L := (LM E b)) (k := 0) (As := [.int (1 : Int32)]) (rest := []) C hW hS (show 0 < 18 by decide) cm0 kcX12 (mX12_fails (1 : Int32)  v7.2 v23 h23) cwX12_fails cvX12_fails rfl mlX12_94 ⟨by decide, by decide⟩ rfl hl.1 (Nat.le_of_ble_eq_true rfl) ⟨by decide, by decide⟩ dX12_showing_23 rfl (fun H locs hW hS => ?_)
    cases h
    exact w_iret C hW hS dX12_showing_26
  · rw [if_neg c10] at h
    refine lv_aload_n hx0 hb dX12_showing_13 rfl (lv_at hl 0 rfl) ?_
    refine lv_iload_n hx0 hb dX12_showing_14 rfl (lv_at hl 1 rfl) ?_
    obtain ⟨v15, h15, h⟩ := bnd h
    try dsimp only at h
    refine w_callV (L := (LM E b)) (k := 0) (As := [.int x1]) (rest := []) C hW hS (show 0 < 18 by decide) cm0 kcX12 (mX12_showingOf x1  v7.2 v15 h15) cwX12_showingOf cvX12_showingOf rfl mlX12_393 ⟨by decide, by decide⟩ rfl hl.1 (Nat.le_of_ble_eq_true rfl) ⟨by decide, by decide⟩ dX12_showing_15 rfl (fun H locs hW hS => ?_)
    refine lv_goto (tgt := 26) hx0 hb dX12_showing_18 (by decide) ?_
    cases h
    exact w_iret C hW hS dX12_showing_26
def fX12_uncovered_l13 : Nat → Int32 → Int32 → Mem → Option (Int32 × Int32 × Mem)
  | 0, _, _, _ => none
  | n + 1, x1, x2, σ => if (σ 0 17) ≤ x2 then (some (x1, x2, σ)) else ((fX12_showingOf x2 σ).bind fun v24 => if v24.1 = 0 then (fX12_uncovered_l13 n (x1 + (1 : Int32)) (x2 + (1 : Int32)) v24.2) else (fX12_uncovered_l13 n (x1 + (0 : Int32)) (x2 + (1 : Int32)) v24.2))
set_option maxRecDepth 100000 in
set_option maxHeartbeats 4000000 in
theorem bX12_uncovered_l13 {p : Program} {l : Launch} {e : Env} {s : State} {m : MethodId} {args : Array Value} {below : List Frame} {meth : Method} {c : Code} {E : Ev} {b : Nat} (C : Cx p l s m args meth c E cX12_uncovered 3 RX12 (some .int)) {Qf : State → Prop} {q : Int32 × Int32 × Mem} (hx : ∀ H locs ls, Wd E (LM E b) q.2.2 H → va_S (La (LM E b)) s.heap H locs → lv_has ls 3 [(0, .ref (b + 0)), (1, .int q.1), (2, .int q.2.1)] → W p l e { frames := 4, cells := 0, slots := 0, locals := 91 } s m args below meth c H locs 0 0 Qf (F0 m 43 ls [])) : ∀ (n : Nat) (x1 : Int32) (x2 : Int32) (σ : Mem), fX12_uncovered_l13 n x1 x2 σ = some q → ∀ (H : Heap) (locs : List Loc) (ls : Array Slot), Wd E (LM E b) σ H → va_S (La (LM E b)) s.heap H locs → lv_has ls 3 [(0, .ref (b + 0)), (1, .int x1), (2, .int x2)] → W p l e { frames := 4, cells := 0, slots := 0, locals := 91 } s m args below meth c H locs 0 0 Qf (F0 m 13 ls []) := by
  have hx0 := C.1
  have hb := C.2.1
  intro n
  induction n with
  | zero => intro x1 x2 σ h; simp [fX12_uncovered_l13] at h
  | succ n ih =>
    intro x1 x2 σ h H locs ls hW hS hl
    unfold fX12_uncovered_l13 at h
    refine lv_iload_n hx0 hb dX12_uncovered_13 rfl (lv_at hl 2 rfl) ?_
    refine lv_aload_n hx0 hb dX12_uncovered_14 rfl (lv_at hl 0 rfl) ?_
    refine gtX12_17 C hW flX12_232 dX12_uncovered_15 ?_
    refine lv_icmp_ge (tgt := 43) hx0 hb dX12_uncovered_18 (by decide) (fun c18 => ?_) (fun c18 => ?_)
    · rw [if_pos c18] at h
      cases h
      exact hx _ _ _ hW hS (lv_sub hl [0, 1, 2] rfl)
    · rw [if_neg c18] at h
      refine lv_iload_n hx0 hb dX12_uncovered_21 rfl (lv_at hl 1 rfl) ?_
      refine lv_aload_n hx0 hb dX12_uncovered_22 rfl (lv_at hl 0 rfl) ?_
      refine lv_iload_n hx0 hb dX12_uncovered_23 rfl (lv_at hl 2 rfl) ?_
      obtain ⟨v24, h24, h⟩ := bnd h
      try dsimp only at h
      refine w_callV (L := (LM E b)) (k := 0) (As := [.int x2]) (rest := [.int x1]) C hW hS (show 0 < 18 by decide) cm0 kcX12 (mX12_showingOf x2  σ v24 h24) cwX12_showingOf cvX12_showingOf rfl mlX12_393 ⟨by decide, by decide⟩ rfl hl.1 (Nat.le_of_ble_eq_true rfl) ⟨by decide, by decide⟩ dX12_uncovered_24 rfl (fun H locs hW hS => ?_)
      refine lv_if_ne (tgt := 34) hx0 hb dX12_uncovered_27 (by decide) (fun c27 => ?_) (fun c27 => ?_)
      · rw [if_neg c27] at h
        refine lv_iconst (v := (0 : Int32)) hx0 hb dX12_uncovered_34 (by decide) ?_
        refine lv_iadd hx0 hb dX12_uncovered_35 ?_
        refine lv_istore_n (lv' := [(1, .int (x1 + (0 : Int32))), (0, .ref (b + 0)), (2, .int x2)]) hx0 hb dX12_uncovered_36 rfl hl (by decide) rfl (fun ls hl => ?_)
        refine lv_iinc (v := x2 + (1 : Int32)) (lv' := [(2, .int (x2 + (1 : Int32))), (1, .int (x1 + (0 : Int32))), (0, .ref (b + 0))]) hx0 hb dX12_uncovered_37 hl (k := 2) rfl rfl (by decide) rfl (fun ls hl => ?_)
        refine lv_goto (tgt := 13) hx0 hb dX12_uncovered_40 (by decide) ?_
        exact ih (x1 + (0 : Int32)) (x2 + (1 : Int32)) v24.2 h _ _ _ hW hS (lv_sub hl [2, 1, 0] rfl)
      · rw [if_pos c27] at h
        refine lv_iconst (v := (1 : Int32)) hx0 hb dX12_uncovered_30 (by decide) ?_
        refine lv_goto (tgt := 35) hx0 hb dX12_uncovered_31 (by decide) ?_
        refine lv_iadd hx0 hb dX12_uncovered_35 ?_
        refine lv_istore_n (lv' := [(1, .int (x1 + (1 : Int32))), (0, .ref (b + 0)), (2, .int x2)]) hx0 hb dX12_uncovered_36 rfl hl (by decide) rfl (fun ls hl => ?_)
        refine lv_iinc (v := x2 + (1 : Int32)) (lv' := [(2, .int (x2 + (1 : Int32))), (1, .int (x1 + (1 : Int32))), (0, .ref (b + 0))]) hx0 hb dX12_uncovered_37 hl (k := 2) rfl rfl (by decide) rfl (fun ls hl => ?_)
        refine lv_goto (tgt := 13) hx0 hb dX12_uncovered_40 (by decide) ?_
        exact ih (x1 + (1 : Int32)) (x2 + (1 : Int32)) v24.2 h _ _ _ hW hS (lv_sub hl [2, 1, 0] rfl)
def fX12_uncovered (σ : Mem) : Option (Int32 × Mem) :=
  (fX12_laysOrder (up σ 0 0 (0 : Int32))).bind fun v6 => (fX12_uncovered_l13 FU (0 : Int32) (0 : Int32) v6).bind fun q13 => some (q13.1, q13.2.2)
set_option maxRecDepth 100000 in
set_option maxHeartbeats 4000000 in
theorem mX12_uncovered {l : Launch} {E : Ev} {b : Nat} (σ : Mem) (r : (Int32 × Mem)) (h : fX12_uncovered σ = some r) : Met l yX12_uncovered (tw yX12_uncovered cX12_uncovered 3 (some .int)) { frames := 4, cells := 0, slots := 0, locals := 91 } (va_Pc [.ref (b + 0)] (Pr l E (LM E b) σ)) (Qz E (LM E b) (some (.int r.1)) r.2) 0 0 (La (LM E b)) := by
  refine ct_of (by decide) (Nat.le_of_ble_eq_true rfl) ?_
  intro p e s m below meth c C hW hS ls hl
  have hx0 := C.1
  have hb := C.2.1
  have hl : lv_has ls 3 [(0, .ref (b + 0))] := hl
  unfold fX12_uncovered at h
  refine lv_aload_n hx0 hb dX12_uncovered_0 rfl (lv_at hl 0 rfl) ?_
  refine lv_iconst (v := (0 : Int32)) hx0 hb dX12_uncovered_1 (by decide) ?_
  refine ptX12_0 C hW hS flX12_3 dX12_uncovered_2 (fun H locs hW hS => ?_)
  refine lv_aload_n hx0 hb dX12_uncovered_5 rfl (lv_at hl 0 rfl) ?_
  obtain ⟨v6, h6, h⟩ := bnd h
  try dsimp only at h
  refine w_callV (L := (LM E b)) (k := 0) (As := []) (rest := []) C hW hS (show 0 < 18 by decide) cm0 kcX12 (mX12_laysOrder   (up σ 0 0 (0 : Int32)) v6 h6) cwX12_laysOrder cvX12_laysOrder rfl mlX12_239 ⟨by decide, by decide⟩ rfl hl.1 (Nat.le_of_ble_eq_true rfl) ⟨by decide, by decide⟩ dX12_uncovered_6 rfl (fun H locs hW hS => ?_)
  refine lv_iconst (v := (0 : Int32)) hx0 hb dX12_uncovered_9 (by decide) ?_
  refine lv_istore_n (lv' := [(1, .int (0 : Int32)), (0, .ref (b + 0))]) hx0 hb dX12_uncovered_10 rfl hl (by decide) rfl (fun ls hl => ?_)
  refine lv_iconst (v := (0 : Int32)) hx0 hb dX12_uncovered_11 (by decide) ?_
  refine lv_istore_n (lv' := [(2, .int (0 : Int32)), (1, .int (0 : Int32)), (0, .ref (b + 0))]) hx0 hb dX12_uncovered_12 rfl hl (by decide) rfl (fun ls hl => ?_)
  obtain ⟨q13, h13, h⟩ := bnd h
  try dsimp only at h
  refine bX12_uncovered_l13 C   (q := q13) ?_ FU (0 : Int32) (0 : Int32) v6 h13 _ _ _ hW hS (lv_sub hl [2, 1, 0] rfl)
  intro H locs ls hW hS hl
  refine lv_iload_n hx0 hb dX12_uncovered_43 rfl (lv_at hl 1 rfl) ?_
  cases h
  exact w_iret C hW hS dX12_uncovered_44
def fX12_nextUncovered_l31 : Nat → Int32 → Mem → Option ((Int32 × Mem) ⊕ (Int32 × Mem))
  | 0, _, _ => none
  | n + 1, x2, σ => if (σ 0 17) ≤ x2 then (some (.inr (x2, σ))) else ((fX12_showingOf x2 σ).bind fun v41 => if v41.1 = 0 then (some (.inl (x2, v41.2))) else (fX12_nextUncovered_l31 n (x2 + (1 : Int32)) v41.2))
set_option maxRecDepth 100000 in
set_option maxHeartbeats 4000000 in
theorem bX12_nextUncovered_l31 {p : Program} {l : Launch} {e : Env} {s : State} {m : MethodId} {args : Array Value} {below : List Frame} {meth : Method} {c : Code} {E : Ev} {b : Nat} (C : Cx p l s m args meth c E cX12_nextUncovered 3 RX12 (some .int)) (r0 : (Int32 × Mem)) {q0 : (Int32 × Mem) ⊕ (Int32 × Mem)} (hr : ∀ r, q0 = .inl r → r = r0) (hx : ∀ q, q0 = .inr q → ∀ H locs ls, Wd E (LM E b) q.2 H → va_S (La (LM E b)) s.heap H locs → lv_has ls 3 [(0, .ref (b + 0)), (2, .int q.1)] → W p l e { frames := 4, cells := 0, slots := 0, locals := 91 } s m args below meth c H locs 0 0 (MQ below (Qz E (LM E b) (some (.int r0.1)) r0.2) args s 0 0 (La (LM E b))) (F0 m 55 ls [])) : ∀ (n : Nat) (x2 : Int32) (σ : Mem), fX12_nextUncovered_l31 n x2 σ = some q0 → ∀ (H : Heap) (locs : List Loc) (ls : Array Slot), Wd E (LM E b) σ H → va_S (La (LM E b)) s.heap H locs → lv_has ls 3 [(0, .ref (b + 0)), (2, .int x2)] → W p l e { frames := 4, cells := 0, slots := 0, locals := 91 } s m args below meth c H locs 0 0 (MQ below (Qz E (LM E b) (some (.int r0.1)) r0.2) args s 0 0 (La (LM E b))) (F0 m 31 ls []) := by
  have hx0 := C.1
  have hb := C.2.1
  intro n
  induction n with
  | zero => intro x2 σ h; simp [fX12_nextUncovered_l31] at h
  | succ n ih =>
    intro x2 σ h H locs ls hW hS hl
    unfold fX12_nextUncovered_l31 at h
    refine lv_iload_n hx0 hb dX12_nextUncovered_31 rfl (lv_at hl 1 rfl) ?_
    refine lv_aload_n hx0 hb dX12_nextUncovered_32 rfl (lv_at hl 0 rfl) ?_
    refine gtX12_17 C hW flX12_232 dX12_nextUncovered_33 ?_
    refine lv_icmp_ge (tgt := 55) hx0 hb dX12_nextUncovered_36 (by decide) (fun c36 => ?_) (fun c36 => ?_)
    · rw [if_pos c36] at h
      cases h
      exact hx _ rfl _ _ _ hW hS (lv_sub hl [0, 1] rfl)
    · rw [if_neg c36] at h
      refine lv_aload_n hx0 hb dX12_nextUncovered_39 rfl (lv_at hl 0 rfl) ?_
      refine lv_iload_n hx0 hb dX12_nextUncovered_40 rfl (lv_at hl 1 rfl) ?_
      obtain ⟨v41, h41, h⟩ := bnd h
      try dsimp only at h
      refine w_callV (L := (LM E b)) (k := 0) (As := [.int x2]) (rest := []) C hW hS (show 0 < 18 by decide) cm0 kcX12 (mX12_showingOf x2  σ v41 h41) cwX12_showingOf cvX12_showingOf rfl mlX12_393 ⟨by decide, by decide⟩ rfl hl.1 (Nat.le_of_ble_eq_true rfl) ⟨by decide, by decide⟩ dX12_nextUncovered_41 rfl (fun H locs hW hS => ?_)
      refine lv_if_ne (tgt := 49) hx0 hb dX12_nextUncovered_44 (by decide) (fun c44 => ?_) (fun c44 => ?_)
      · rw [if_neg c44] at h
        refine lv_iinc (v := x2 + (1 : Int32)) (lv' := [(2, .int (x2 + (1 : Int32))), (0, .ref (b + 0))]) hx0 hb dX12_nextUncovered_49 hl (k := 1) rfl rfl (by decide) rfl (fun ls hl => ?_)
        refine lv_goto (tgt := 31) hx0 hb dX12_nextUncovered_52 (by decide) ?_
        exact ih (x2 + (1 : Int32)) v41.2 h _ _ _ hW hS (lv_sub hl [1, 0] rfl)
      · rw [if_pos c44] at h
        refine lv_iload_n hx0 hb dX12_nextUncovered_47 rfl (lv_at hl 1 rfl) ?_
        cases h
        cases hr _ rfl
        exact w_iret C hW hS dX12_nextUncovered_48
def fX12_nextUncovered (x1 : Int32) (σ : Mem) : Option (Int32 × Mem) :=
  (fX12_laysOrder (up σ 0 0 (0 : Int32))).bind fun v6 => (fX12_isIn x1.toInt64 (0 : Int64) ((v6 0 17).toInt64) v6).bind fun v17 => if v17 = 0 then ((fX12_fails (1 : Int32) v6).bind fun v25 => some (v25.1, v25.2)) else ((fX12_nextUncovered_l31 FU x1 v6).bind fun q31 => match q31 with | .inl r => some r | .inr q31 => some ((-1 : Int32), q31.2))
set_option maxRecDepth 100000 in
set_option maxHeartbeats 4000000 in
theorem mX12_nextUncovered {l : Launch} {E : Ev} {b : Nat} (x1 : Int32) (σ : Mem) (r : (Int32 × Mem)) (h : fX12_nextUncovered x1 σ = some r) : Met l yX12_nextUncovered (tw yX12_nextUncovered cX12_nextUncovered 3 (some .int)) { frames := 4, cells := 0, slots := 0, locals := 91 } (va_Pc [.ref (b + 0), .int x1] (Pr l E (LM E b) σ)) (Qz E (LM E b) (some (.int r.1)) r.2) 0 0 (La (LM E b)) := by
  refine ct_of (by decide) (Nat.le_of_ble_eq_true rfl) ?_
  intro p e s m below meth c C hW hS ls hl
  have hx0 := C.1
  have hb := C.2.1
  have hl : lv_has ls 3 [(0, .ref (b + 0)), (1, .int x1)] := hl
  unfold fX12_nextUncovered at h
  refine lv_aload_n hx0 hb dX12_nextUncovered_0 rfl (lv_at hl 0 rfl) ?_
  refine lv_iconst (v := (0 : Int32)) hx0 hb dX12_nextUncovered_1 (by decide) ?_
  refine ptX12_0 C hW hS flX12_3 dX12_nextUncovered_2 (fun H locs hW hS => ?_)
  refine lv_aload_n hx0 hb dX12_nextUncovered_5 rfl (lv_at hl 0 rfl) ?_
  obtain ⟨v6, h6, h⟩ := bnd h
  try dsimp only at h
  refine w_callV (L := (LM E b)) (k := 0) (As := []) (rest := []) C hW hS (show 0 < 18 by decide) cm0 kcX12 (mX12_laysOrder   (up σ 0 0 (0 : Int32)) v6 h6) cwX12_laysOrder cvX12_laysOrder rfl mlX12_239 ⟨by decide, by decide⟩ rfl hl.1 (Nat.le_of_ble_eq_true rfl) ⟨by decide, by decide⟩ dX12_nextUncovered_6 rfl (fun H locs hW hS => ?_)
  refine lv_iload_n hx0 hb dX12_nextUncovered_9 rfl (lv_at hl 1 rfl) ?_
  refine lv_i2l hx0 hb dX12_nextUncovered_10 rfl ?_
  refine lv_lconst (v := (0 : Int64)) hx0 hb dX12_nextUncovered_11 (by decide) ?_
  refine lv_aload_n hx0 hb dX12_nextUncovered_12 rfl (lv_at hl 0 rfl) ?_
  refine gtX12_17 C hW flX12_232 dX12_nextUncovered_13 ?_
  refine lv_i2l hx0 hb dX12_nextUncovered_16 rfl ?_
  obtain ⟨v17, h17, h⟩ := bnd h
  try dsimp only at h
  refine w_callS (L := (LM E b)) (As := [.long x1.toInt64, .long (0 : Int64), .long ((v6 0 17).toInt64)]) (rest := []) C hW hS (mX12_isIn x1.toInt64 (0 : Int64) ((v6 0 17).toInt64)  v6 v17 h17) cwX12_isIn csX12_isIn mlX12_101 ⟨by decide, by decide⟩ rfl hl.1 (Nat.le_of_ble_eq_true rfl) ⟨by decide, by decide⟩ dX12_nextUncovered_17 rfl (fun H locs hW hS => ?_)
  refine lv_if_ne (tgt := 29) hx0 hb dX12_nextUncovered_20 (by decide) (fun c20 => ?_) (fun c20 => ?_)
  · rw [if_neg c20] at h
    refine lv_iload_n hx0 hb dX12_nextUncovered_29 rfl (lv_at hl 1 rfl) ?_
    refine lv_istore_n (lv' := [(2, .int x1), (0, .ref (b + 0)), (1, .int x1)]) hx0 hb dX12_nextUncovered_30 rfl hl (by decide) rfl (fun ls hl => ?_)
    obtain ⟨q31, h31, h⟩ := bnd h
    refine bX12_nextUncovered_l31 C   r (q0 := q31) ?_ ?_ FU x1 v6 h31 _ _ _ hW hS (lv_sub hl [1, 0] rfl)
    · intro r1 hq; subst hq; (try dsimp only at h); exact Option.some.inj h
    · intro q31 hq H locs ls hW hS hl
      subst hq; try dsimp only at h
      refine lv_iconst (v := (-1 : Int32)) hx0 hb dX12_nextUncovered_55 (by decide) ?_
      cases h
      exact w_iret C hW hS dX12_nextUncovered_56
  · rw [if_pos c20] at h
    refine lv_aload_n hx0 hb dX12_nextUncovered_23 rfl (lv_at hl 0 rfl) ?_
    refine lv_iconst (v := (1 : Int32)) hx0 hb dX12_nextUncovered_24 (by decide) ?_
    obtain ⟨v25, h25, h⟩ := bnd h
    try dsimp only at h
    refine w_callV (L := (LM E b)) (k := 0) (As := [.int (1 : Int32)]) (rest := []) C hW hS (show 0 < 18 by decide) cm0 kcX12 (mX12_fails (1 : Int32)  v6 v25 h25) cwX12_fails cvX12_fails rfl mlX12_94 ⟨by decide, by decide⟩ rfl hl.1 (Nat.le_of_ble_eq_true rfl) ⟨by decide, by decide⟩ dX12_nextUncovered_25 rfl (fun H locs hW hS => ?_)
    cases h
    exact w_iret C hW hS dX12_nextUncovered_28
def fX12_isElsewhere_l2 (x1 : Int32) (x2 : Int32) : Nat → Int32 → Mem → Option ((Int32 × Mem) ⊕ (Int32 × Mem))
  | 0, _, _ => none
  | n + 1, x3, σ => if (2 : Int32) < 0 ∨ lm 3 ≤ (2 : Int32).toNatClampNeg then none else if (σ 3 (2 : Int32).toNatClampNeg) ≤ x3 then (some (.inr (x3, σ))) else (if x3 = x2 then (fX12_isElsewhere_l2 x1 x2 n (x3 + (1 : Int32)) σ) else (if x3 < 0 ∨ lm 17 ≤ x3.toNatClampNeg then none else if (σ 17 x3.toNatClampNeg) = 0 then ((fX12_isShown x3 x1 σ).bind fun v29 => if v29.1 = 0 then (fX12_isElsewhere_l2 x1 x2 n (x3 + (1 : Int32)) v29.2) else (some (.inl ((1 : Int32), v29.2)))) else (fX12_isElsewhere_l2 x1 x2 n (x3 + (1 : Int32)) σ)))
set_option maxRecDepth 100000 in
set_option maxHeartbeats 4000000 in
theorem bX12_isElsewhere_l2 {p : Program} {l : Launch} {e : Env} {s : State} {m : MethodId} {args : Array Value} {below : List Frame} {meth : Method} {c : Code} {E : Ev} {b : Nat} (C : Cx p l s m args meth c E cX12_isElsewhere 4 RX12 (some .boolean)) (x1 : Int32) (x2 : Int32) (r0 : (Int32 × Mem)) {q0 : (Int32 × Mem) ⊕ (Int32 × Mem)} (hr : ∀ r, q0 = .inl r → r = r0) (hx : ∀ q, q0 = .inr q → ∀ H locs ls, Wd E (LM E b) q.2 H → va_S (La (LM E b)) s.heap H locs → lv_has ls 4 [(0, .ref (b + 0)), (1, .int x1), (2, .int x2), (3, .int q.1)] → W p l e { frames := 3, cells := 0, slots := 0, locals := 68 } s m args below meth c H locs 0 0 (MQ below (Qz E (LM E b) (some (.int r0.1)) r0.2) args s 0 0 (La (LM E b))) (F0 m 43 ls [])) : ∀ (n : Nat) (x3 : Int32) (σ : Mem), fX12_isElsewhere_l2 x1 x2 n x3 σ = some q0 → ∀ (H : Heap) (locs : List Loc) (ls : Array Slot), Wd E (LM E b) σ H → va_S (La (LM E b)) s.heap H locs → lv_has ls 4 [(0, .ref (b + 0)), (1, .int x1), (2, .int x2), (3, .int x3)] → W p l e { frames := 3, cells := 0, slots := 0, locals := 68 } s m args below meth c H locs 0 0 (MQ below (Qz E (LM E b) (some (.int r0.1)) r0.2) args s 0 0 (La (LM E b))) (F0 m 2 ls []) := by
  have hx0 := C.1
  have hb := C.2.1
  intro n
  induction n with
  | zero => intro x3 σ h; simp [fX12_isElsewhere_l2] at h
  | succ n ih =>
    intro x3 σ h H locs ls hW hS hl
    unfold fX12_isElsewhere_l2 at h
    refine lv_iload_n hx0 hb dX12_isElsewhere_2 rfl (lv_at hl 3 rfl) ?_
    refine lv_aload_n hx0 hb dX12_isElsewhere_3 rfl (lv_at hl 0 rfl) ?_
    refine gtX12_5 C hW flX12_20 dX12_isElsewhere_4 ?_
    refine lv_iconst (v := (2 : Int32)) hx0 hb dX12_isElsewhere_7 (by decide) ?_
    by_cases z8 : (2 : Int32) < 0 ∨ lm 3 ≤ (2 : Int32).toNatClampNeg
    · rw [if_pos z8] at h; cases h
    rw [if_neg z8] at h
    refine ldIm (k := 3) C hW (by decide) z8 dX12_isElsewhere_8 ?_
    refine lv_icmp_ge (tgt := 43) hx0 hb dX12_isElsewhere_9 (by decide) (fun c9 => ?_) (fun c9 => ?_)
    · rw [if_pos c9] at h
      cases h
      exact hx _ rfl _ _ _ hW hS (lv_sub hl [0, 1, 2, 3] rfl)
    · rw [if_neg c9] at h
      refine lv_iload_n hx0 hb dX12_isElsewhere_12 rfl (lv_at hl 3 rfl) ?_
      refine lv_iload_n hx0 hb dX12_isElsewhere_13 rfl (lv_at hl 2 rfl) ?_
      refine lv_icmp_eq (tgt := 37) hx0 hb dX12_isElsewhere_14 (by decide) (fun c14 => ?_) (fun c14 => ?_)
      · rw [if_pos c14] at h
        refine lv_iinc (v := x3 + (1 : Int32)) (lv' := [(3, .int (x3 + (1 : Int32))), (0, .ref (b + 0)), (1, .int x1), (2, .int x2)]) hx0 hb dX12_isElsewhere_37 hl (k := 3) rfl rfl (by decide) rfl (fun ls hl => ?_)
        refine lv_goto (tgt := 2) hx0 hb dX12_isElsewhere_40 (by decide) ?_
        exact ih (x3 + (1 : Int32)) σ h _ _ _ hW hS (lv_sub hl [1, 2, 3, 0] rfl)
      · rw [if_neg c14] at h
        refine lv_aload_n hx0 hb dX12_isElsewhere_17 rfl (lv_at hl 0 rfl) ?_
        refine gtX12_29 C hW flX12_63 dX12_isElsewhere_18 ?_
        refine lv_iload_n hx0 hb dX12_isElsewhere_21 rfl (lv_at hl 3 rfl) ?_
        by_cases z22 : x3 < 0 ∨ lm 17 ≤ x3.toNatClampNeg
        · rw [if_pos z22] at h; cases h
        rw [if_neg z22] at h
        refine ldZm (k := 17) C hW (by decide) z22 dX12_isElsewhere_22 ?_
        refine lv_if_ne (tgt := 37) hx0 hb dX12_isElsewhere_23 (by decide) (fun c23 => ?_) (fun c23 => ?_)
        · rw [if_neg c23] at h
          refine lv_iinc (v := x3 + (1 : Int32)) (lv' := [(3, .int (x3 + (1 : Int32))), (0, .ref (b + 0)), (1, .int x1), (2, .int x2)]) hx0 hb dX12_isElsewhere_37 hl (k := 3) rfl rfl (by decide) rfl (fun ls hl => ?_)
          refine lv_goto (tgt := 2) hx0 hb dX12_isElsewhere_40 (by decide) ?_
          exact ih (x3 + (1 : Int32)) σ h _ _ _ hW hS (lv_sub hl [1, 2, 3, 0] rfl)
        · rw [if_pos c23] at h
          refine lv_aload_n hx0 hb dX12_isElsewhere_26 rfl (lv_at hl 0 rfl) ?_
          refine lv_iload_n hx0 hb dX12_isElsewhere_27 rfl (lv_at hl 3 rfl) ?_
          refine lv_iload_n hx0 hb dX12_isElsewhere_28 rfl (lv_at hl 1 rfl) ?_
          obtain ⟨v29, h29, h⟩ := bnd h
          try dsimp only at h
          refine w_callV (L := (LM E b)) (k := 0) (As := [.int x3, .int x1]) (rest := []) C hW hS (show 0 < 18 by decide) cm0 kcX12 (mX12_isShown x3 x1  σ v29 h29) cwX12_isShown cvX12_isShown rfl mlX12_281 ⟨by decide, by decide⟩ rfl hl.1 (Nat.le_of_ble_eq_true rfl) ⟨by decide, by decide⟩ dX12_isElsewhere_29 rfl (fun H locs hW hS => ?_)
          refine lv_if_eq (tgt := 37) hx0 hb dX12_isElsewhere_32 (by decide) (fun c32 => ?_) (fun c32 => ?_)
          · rw [if_pos c32] at h
            refine lv_iinc (v := x3 + (1 : Int32)) (lv' := [(3, .int (x3 + (1 : Int32))), (0, .ref (b + 0)), (1, .int x1), (2, .int x2)]) hx0 hb dX12_isElsewhere_37 hl (k := 3) rfl rfl (by decide) rfl (fun ls hl => ?_)
            refine lv_goto (tgt := 2) hx0 hb dX12_isElsewhere_40 (by decide) ?_
            exact ih (x3 + (1 : Int32)) v29.2 h _ _ _ hW hS (lv_sub hl [1, 2, 3, 0] rfl)
          · rw [if_neg c32] at h
            refine lv_iconst (v := (1 : Int32)) hx0 hb dX12_isElsewhere_35 (by decide) ?_
            cases h
            cases hr _ rfl
            exact w_zret C hW hS (Or.inr rfl) dX12_isElsewhere_36
def fX12_isElsewhere (x1 : Int32) (x2 : Int32) (σ : Mem) : Option (Int32 × Mem) :=
  (fX12_isElsewhere_l2 x1 x2 FU (0 : Int32) σ).bind fun q2 => match q2 with | .inl r => some r | .inr q2 => some ((0 : Int32), q2.2)
set_option maxRecDepth 100000 in
set_option maxHeartbeats 4000000 in
theorem mX12_isElsewhere {l : Launch} {E : Ev} {b : Nat} (x1 : Int32) (x2 : Int32) (σ : Mem) (r : (Int32 × Mem)) (h : fX12_isElsewhere x1 x2 σ = some r) : Met l yX12_isElsewhere (tw yX12_isElsewhere cX12_isElsewhere 4 (some .boolean)) { frames := 3, cells := 0, slots := 0, locals := 68 } (va_Pc [.ref (b + 0), .int x1, .int x2] (Pr l E (LM E b) σ)) (Qz E (LM E b) (some (.int r.1)) r.2) 0 0 (La (LM E b)) := by
  refine ct_of (by decide) (Nat.le_of_ble_eq_true rfl) ?_
  intro p e s m below meth c C hW hS ls hl
  have hx0 := C.1
  have hb := C.2.1
  have hl : lv_has ls 4 [(0, .ref (b + 0)), (1, .int x1), (2, .int x2)] := hl
  unfold fX12_isElsewhere at h
  refine lv_iconst (v := (0 : Int32)) hx0 hb dX12_isElsewhere_0 (by decide) ?_
  refine lv_istore_n (lv' := [(3, .int (0 : Int32)), (0, .ref (b + 0)), (1, .int x1), (2, .int x2)]) hx0 hb dX12_isElsewhere_1 rfl hl (by decide) rfl (fun ls hl => ?_)
  obtain ⟨q2, h2, h⟩ := bnd h
  refine bX12_isElsewhere_l2 C x1 x2  r (q0 := q2) ?_ ?_ FU (0 : Int32) σ h2 _ _ _ hW hS (lv_sub hl [1, 2, 3, 0] rfl)
  · intro r1 hq; subst hq; (try dsimp only at h); exact Option.some.inj h
  · intro q2 hq H locs ls hW hS hl
    subst hq; try dsimp only at h
    refine lv_iconst (v := (0 : Int32)) hx0 hb dX12_isElsewhere_43 (by decide) ?_
    cases h
    exact w_zret C hW hS (Or.inl rfl) dX12_isElsewhere_44
