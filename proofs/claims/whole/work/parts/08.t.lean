def FU : Nat := 4096
def fX3_at (o0 : Nat) (x1 : Int32) (σ : Mem) : Option Int32 :=
  if x1 < 0 then (some (0 : Int32)) else (if (Int32.ofNat (ln (o0 + 1))) ≤ x1 then (some (0 : Int32)) else (if x1 < 0 ∨ ln (o0 + 1) ≤ x1.toNatClampNeg then none else some (σ (o0 + 1) x1.toNatClampNeg)))
set_option maxRecDepth 100000 in
set_option maxHeartbeats 4000000 in
theorem mX3_at {l : Launch} {E : Ev} {b : Nat} (o0 : Nat) (x1 : Int32) (ho0 : kd o0 = 3) (σ : Mem) (r : Int32) (h : fX3_at o0 x1 σ = some r) : Met l yX3_at (tw yX3_at cX3_at 2 (some .int)) { frames := 0, cells := 0, slots := 0, locals := 0 } (va_Pc [.ref (b + o0), .int x1] (Pr l E (LC E b) σ)) (Qz E (LC E b) (some (.int r)) σ) 0 0 (La (LC E b)) := by
  refine ct_of (by decide) (by decide) ?_
  intro p e s m below meth c C hW hS ls hl
  have hx := C.1
  have hb := C.2.1
  have hl : lv_has ls 2 [(0, .ref (b + o0)), (1, .int x1)] := hl
  unfold fX3_at at h
  refine lv_iload_n hx hb dX3_at_0 rfl (lv_at hl 1 rfl) ?_
  refine lv_if_lt (tgt := 22) hx hb dX3_at_1 (by decide) (fun c1 => ?_) (fun c1 => ?_)
  · rw [if_pos c1] at h
    refine lv_iconst (v := (0 : Int32)) hx hb dX3_at_22 (by decide) ?_
    cases h
    exact w_iret C hW hS dX3_at_23
  · rw [if_neg c1] at h
    refine lv_iload_n hx hb dX3_at_4 rfl (lv_at hl 1 rfl) ?_
    refine lv_aload_n hx hb dX3_at_5 rfl (lv_at hl 0 rfl) ?_
    refine gtX3_0 (k := o0) C hW ho0 flX3_7 dX3_at_6 ?_
    refine alA (k := o0 + 1) C hW (chX3_0 ho0) dX3_at_9 ?_
    refine lv_icmp_ge (tgt := 22) hx hb dX3_at_10 (by decide) (fun c10 => ?_) (fun c10 => ?_)
    · rw [if_pos c10] at h
      refine lv_iconst (v := (0 : Int32)) hx hb dX3_at_22 (by decide) ?_
      cases h
      exact w_iret C hW hS dX3_at_23
    · rw [if_neg c10] at h
      refine lv_aload_n hx hb dX3_at_13 rfl (lv_at hl 0 rfl) ?_
      refine gtX3_0 (k := o0) C hW ho0 flX3_7 dX3_at_14 ?_
      refine lv_iload_n hx hb dX3_at_17 rfl (lv_at hl 1 rfl) ?_
      by_cases z18 : x1 < 0 ∨ ln (o0 + 1) ≤ x1.toNatClampNeg
      · rw [if_pos z18] at h; cases h
      rw [if_neg z18] at h
      refine ldA (k := o0 + 1) C hW (chX3_0 ho0) z18 dX3_at_18 ?_
      refine lv_goto (tgt := 23) hx hb dX3_at_19 (by decide) ?_
      cases h
      exact w_iret C hW hS dX3_at_23
def fX3_put (o0 : Nat) (x1 : Int32) (x2 : Int32) (σ : Mem) : Option Mem :=
  if x1 < 0 then (some σ) else (if (Int32.ofNat (ln (o0 + 1))) ≤ x1 then (some σ) else (if x1 < 0 ∨ ln (o0 + 1) ≤ x1.toNatClampNeg then none else some (up σ (o0 + 1) x1.toNatClampNeg x2)))
set_option maxRecDepth 100000 in
set_option maxHeartbeats 4000000 in
theorem mX3_put {l : Launch} {E : Ev} {b : Nat} (o0 : Nat) (x1 : Int32) (x2 : Int32) (ho0 : kd o0 = 3) (σ : Mem) (r : Mem) (h : fX3_put o0 x1 x2 σ = some r) : Met l yX3_put (tw yX3_put cX3_put 3 none) { frames := 0, cells := 0, slots := 0, locals := 0 } (va_Pc [.ref (b + o0), .int x1, .int x2] (Pr l E (LC E b) σ)) (Qz E (LC E b) none r) 0 0 (La (LC E b)) := by
  refine ct_of (by decide) (by decide) ?_
  intro p e s m below meth c C hW hS ls hl
  have hx := C.1
  have hb := C.2.1
  have hl : lv_has ls 3 [(0, .ref (b + o0)), (1, .int x1), (2, .int x2)] := hl
  unfold fX3_put at h
  refine lv_iload_n hx hb dX3_put_0 rfl (lv_at hl 1 rfl) ?_
  refine lv_if_lt (tgt := 20) hx hb dX3_put_1 (by decide) (fun c1 => ?_) (fun c1 => ?_)
  · rw [if_pos c1] at h
    cases h
    exact w_vret C hW hS dX3_put_20
  · rw [if_neg c1] at h
    refine lv_iload_n hx hb dX3_put_4 rfl (lv_at hl 1 rfl) ?_
    refine lv_aload_n hx hb dX3_put_5 rfl (lv_at hl 0 rfl) ?_
    refine gtX3_0 (k := o0) C hW ho0 flX3_7 dX3_put_6 ?_
    refine alA (k := o0 + 1) C hW (chX3_0 ho0) dX3_put_9 ?_
    refine lv_icmp_ge (tgt := 20) hx hb dX3_put_10 (by decide) (fun c10 => ?_) (fun c10 => ?_)
    · rw [if_pos c10] at h
      cases h
      exact w_vret C hW hS dX3_put_20
    · rw [if_neg c10] at h
      refine lv_aload_n hx hb dX3_put_13 rfl (lv_at hl 0 rfl) ?_
      refine gtX3_0 (k := o0) C hW ho0 flX3_7 dX3_put_14 ?_
      refine lv_iload_n hx hb dX3_put_17 rfl (lv_at hl 1 rfl) ?_
      refine lv_iload_n hx hb dX3_put_18 rfl (lv_at hl 2 rfl) ?_
      by_cases z19 : x1 < 0 ∨ ln (o0 + 1) ≤ x1.toNatClampNeg
      · rw [if_pos z19] at h; cases h
      rw [if_neg z19] at h
      refine saA (k := o0 + 1) C hW hS (chX3_0 ho0) z19 dX3_put_19 (fun H locs hW hS => ?_)
      cases h
      exact w_vret C hW hS dX3_put_20
def fX10_hasLeaf (o0 : Nat) (x1 : Int32) (σ : Mem) : Option Int32 :=
  if x1 < 0 then (some (0 : Int32)) else (if (σ o0 6) ≤ x1 then (some (0 : Int32)) else (some (1 : Int32)))
set_option maxRecDepth 100000 in
set_option maxHeartbeats 4000000 in
theorem mX10_hasLeaf {l : Launch} {E : Ev} {b : Nat} (o0 : Nat) (x1 : Int32) (ho0 : kd o0 = 10) (σ : Mem) (r : Int32) (h : fX10_hasLeaf o0 x1 σ = some r) : Met l yX10_hasLeaf (tw yX10_hasLeaf cX10_hasLeaf 2 (some .boolean)) { frames := 0, cells := 0, slots := 0, locals := 0 } (va_Pc [.ref (b + o0), .int x1] (Pr l E (LC E b) σ)) (Qz E (LC E b) (some (.int r)) σ) 0 0 (La (LC E b)) := by
  refine ct_of (by decide) (by decide) ?_
  intro p e s m below meth c C hW hS ls hl
  have hx := C.1
  have hb := C.2.1
  have hl : lv_has ls 2 [(0, .ref (b + o0)), (1, .int x1)] := hl
  unfold fX10_hasLeaf at h
  refine lv_iload_n hx hb dX10_hasLeaf_0 rfl (lv_at hl 1 rfl) ?_
  refine lv_if_lt (tgt := 16) hx hb dX10_hasLeaf_1 (by decide) (fun c1 => ?_) (fun c1 => ?_)
  · rw [if_pos c1] at h
    refine lv_iconst (v := (0 : Int32)) hx hb dX10_hasLeaf_16 (by decide) ?_
    cases h
    exact w_zret C hW hS (Or.inl rfl) dX10_hasLeaf_17
  · rw [if_neg c1] at h
    refine lv_iload_n hx hb dX10_hasLeaf_4 rfl (lv_at hl 1 rfl) ?_
    refine lv_aload_n hx hb dX10_hasLeaf_5 rfl (lv_at hl 0 rfl) ?_
    refine gtX10_6 (k := o0) C hW ho0 flX10_36 dX10_hasLeaf_6 ?_
    refine lv_icmp_ge (tgt := 16) hx hb dX10_hasLeaf_9 (by decide) (fun c9 => ?_) (fun c9 => ?_)
    · rw [if_pos c9] at h
      refine lv_iconst (v := (0 : Int32)) hx hb dX10_hasLeaf_16 (by decide) ?_
      cases h
      exact w_zret C hW hS (Or.inl rfl) dX10_hasLeaf_17
    · rw [if_neg c9] at h
      refine lv_iconst (v := (1 : Int32)) hx hb dX10_hasLeaf_12 (by decide) ?_
      refine lv_goto (tgt := 17) hx hb dX10_hasLeaf_13 (by decide) ?_
      cases h
      exact w_zret C hW hS (Or.inr rfl) dX10_hasLeaf_17
def fX10_isPresent (o0 : Nat) (x1 : Int32) (σ : Mem) : Option Int32 :=
  (fX10_hasLeaf o0 x1 σ).bind fun v2 => if v2 = 0 then (some (0 : Int32)) else ((fX3_at (o0 + 3) x1 σ).bind fun v13 => if v13 = 0 then (some (1 : Int32)) else (some (0 : Int32)))
set_option maxRecDepth 100000 in
set_option maxHeartbeats 4000000 in
theorem mX10_isPresent {l : Launch} {E : Ev} {b : Nat} (o0 : Nat) (x1 : Int32) (ho0 : kd o0 = 10) (σ : Mem) (r : Int32) (h : fX10_isPresent o0 x1 σ = some r) : Met l yX10_isPresent (tw yX10_isPresent cX10_isPresent 2 (some .boolean)) { frames := 1, cells := 0, slots := 0, locals := 21 } (va_Pc [.ref (b + o0), .int x1] (Pr l E (LC E b) σ)) (Qz E (LC E b) (some (.int r)) σ) 0 0 (La (LC E b)) := by
  refine ct_of (by decide) (by decide) ?_
  intro p e s m below meth c C hW hS ls hl
  have hx := C.1
  have hb := C.2.1
  have hl : lv_has ls 2 [(0, .ref (b + o0)), (1, .int x1)] := hl
  unfold fX10_isPresent at h
  refine lv_aload_n hx hb dX10_isPresent_0 rfl (lv_at hl 0 rfl) ?_
  refine lv_iload_n hx hb dX10_isPresent_1 rfl (lv_at hl 1 rfl) ?_
  obtain ⟨v2, h2, h⟩ := bnd h
  dsimp only at h
  refine w_callV (L := (LC E b)) (k := o0) (As := [.int x1]) (rest := []) C hW hS (kdlt ho0 (by decide)) (ccX10 ho0) kcX10 (mX10_hasLeaf o0 x1 ho0 σ v2 h2) cwX10_hasLeaf cvX10_hasLeaf rfl mlX10_71 ⟨by decide, by decide⟩ rfl hl.1 (by decide) ⟨by decide, by decide⟩ dX10_isPresent_2 rfl (fun H locs hW hS => ?_)
  refine lv_if_eq (tgt := 23) hx hb dX10_isPresent_5 (by decide) (fun c5 => ?_) (fun c5 => ?_)
  · rw [if_pos c5] at h
    refine lv_iconst (v := (0 : Int32)) hx hb dX10_isPresent_23 (by decide) ?_
    cases h
    exact w_zret C hW hS (Or.inl rfl) dX10_isPresent_24
  · rw [if_neg c5] at h
    refine lv_aload_n hx hb dX10_isPresent_8 rfl (lv_at hl 0 rfl) ?_
    refine gtX10_1 (k := o0) C hW ho0 flX10_20 dX10_isPresent_9 ?_
    refine lv_iload_n hx hb dX10_isPresent_12 rfl (lv_at hl 1 rfl) ?_
    obtain ⟨v13, h13, h⟩ := bnd h
    dsimp only at h
    refine w_callV (L := (LC E b)) (k := o0 + 3) (As := [.int x1]) (rest := []) C hW hS (kdlt (chX10_1 ho0) (by decide)) (ccX3 (chX10_1 ho0)) kcX3 (mX3_at (o0 + 3) x1 (chX10_1 ho0) σ v13 h13) cwX3_at cvX3_at rfl mlX10_58 ⟨by decide, by decide⟩ rfl hl.1 (by decide) ⟨by decide, by decide⟩ dX10_isPresent_13 rfl (fun H locs hW hS => ?_)
    refine lv_if_ne (tgt := 23) hx hb dX10_isPresent_16 (by decide) (fun c16 => ?_) (fun c16 => ?_)
    · rw [if_neg c16] at h
      refine lv_iconst (v := (0 : Int32)) hx hb dX10_isPresent_23 (by decide) ?_
      cases h
      exact w_zret C hW hS (Or.inl rfl) dX10_isPresent_24
    · rw [if_pos c16] at h
      refine lv_iconst (v := (1 : Int32)) hx hb dX10_isPresent_19 (by decide) ?_
      refine lv_goto (tgt := 24) hx hb dX10_isPresent_20 (by decide) ?_
      cases h
      exact w_zret C hW hS (Or.inr rfl) dX10_isPresent_24
def fX10_presentBefore_l4 (o0 : Nat) (x1 : Int32) : Nat → Int32 → Int32 → Mem → Option (Int32 × Int32)
  | 0, _, _, _ => none
  | n + 1, x2, x3, σ => if x1 ≤ x3 then (some (x2, x3)) else ((fX10_isPresent o0 x3 σ).bind fun v11 => if v11 = 0 then (fX10_presentBefore_l4 o0 x1 n x2 (x3 + (1 : Int32)) σ) else (fX10_presentBefore_l4 o0 x1 n (x2 + (1 : Int32)) (x3 + (1 : Int32)) σ))
set_option maxRecDepth 100000 in
set_option maxHeartbeats 4000000 in
theorem bX10_presentBefore_l4 {p : Program} {l : Launch} {e : Env} {s : State} {m : MethodId} {args : Array Value} {below : List Frame} {meth : Method} {c : Code} {E : Ev} {b : Nat} (C : Cx p l s m args meth c E cX10_presentBefore 4 RX10 (some .int)) (o0 : Nat) (x1 : Int32) (ho0 : kd o0 = 10) (σ : Mem) {Qf : State → Prop} {q : Int32 × Int32} (hx : ∀ H locs ls, Wd E (LC E b) σ H → va_S (La (LC E b)) s.heap H locs → lv_has ls 4 [(0, .ref (b + o0)), (1, .int x1), (2, .int q.1), (3, .int q.2)] → W p l e { frames := 2, cells := 0, slots := 0, locals := 42 } s m args below meth c H locs 0 0 Qf (F0 m 26 ls [])) : ∀ (n : Nat) (x2 : Int32) (x3 : Int32), fX10_presentBefore_l4 o0 x1 n x2 x3 σ = some q → ∀ (H : Heap) (locs : List Loc) (ls : Array Slot), Wd E (LC E b) σ H → va_S (La (LC E b)) s.heap H locs → lv_has ls 4 [(0, .ref (b + o0)), (1, .int x1), (2, .int x2), (3, .int x3)] → W p l e { frames := 2, cells := 0, slots := 0, locals := 42 } s m args below meth c H locs 0 0 Qf (F0 m 4 ls []) := by
  have hx0 := C.1
  have hb := C.2.1
  intro n
  induction n with
  | zero => intro x2 x3 h; simp [fX10_presentBefore_l4] at h
  | succ n ih =>
    intro x2 x3 h H locs ls hW hS hl
    unfold fX10_presentBefore_l4 at h
    refine lv_iload_n hx0 hb dX10_presentBefore_4 rfl (lv_at hl 3 rfl) ?_
    refine lv_iload_n hx0 hb dX10_presentBefore_5 rfl (lv_at hl 1 rfl) ?_
    refine lv_icmp_ge (tgt := 26) hx0 hb dX10_presentBefore_6 (by decide) (fun c6 => ?_) (fun c6 => ?_)
    · rw [if_pos c6] at h
      cases h
      exact hx _ _ _ hW hS (lv_sub hl [0, 1, 2, 3] rfl)
    · rw [if_neg c6] at h
      refine lv_aload_n hx0 hb dX10_presentBefore_9 rfl (lv_at hl 0 rfl) ?_
      refine lv_iload_n hx0 hb dX10_presentBefore_10 rfl (lv_at hl 3 rfl) ?_
      obtain ⟨v11, h11, h⟩ := bnd h
      dsimp only at h
      refine w_callV (L := (LC E b)) (k := o0) (As := [.int x3]) (rest := []) C hW hS (kdlt ho0 (by decide)) (ccX10 ho0) kcX10 (mX10_isPresent o0 x3 ho0 σ v11 h11) cwX10_isPresent cvX10_isPresent rfl mlX10_77 ⟨by decide, by decide⟩ rfl hl.1 (by decide) ⟨by decide, by decide⟩ dX10_presentBefore_11 rfl (fun H locs hW hS => ?_)
      refine lv_if_eq (tgt := 20) hx0 hb dX10_presentBefore_14 (by decide) (fun c14 => ?_) (fun c14 => ?_)
      · rw [if_pos c14] at h
        refine lv_iinc (v := x3 + (1 : Int32)) (lv' := [(3, .int (x3 + (1 : Int32))), (0, .ref (b + o0)), (1, .int x1), (2, .int x2)]) hx0 hb dX10_presentBefore_20 hl (k := 3) rfl rfl (by decide) rfl (fun ls hl => ?_)
        refine lv_goto (tgt := 4) hx0 hb dX10_presentBefore_23 (by decide) ?_
        exact ih x2 (x3 + (1 : Int32)) h _ _ _ hW hS (lv_sub hl [1, 2, 3, 0] rfl)
      · rw [if_neg c14] at h
        refine lv_iinc (v := x2 + (1 : Int32)) (lv' := [(2, .int (x2 + (1 : Int32))), (0, .ref (b + o0)), (1, .int x1), (3, .int x3)]) hx0 hb dX10_presentBefore_17 hl (k := 2) rfl rfl (by decide) rfl (fun ls hl => ?_)
        refine lv_iinc (v := x3 + (1 : Int32)) (lv' := [(3, .int (x3 + (1 : Int32))), (2, .int (x2 + (1 : Int32))), (0, .ref (b + o0)), (1, .int x1)]) hx0 hb dX10_presentBefore_20 hl (k := 3) rfl rfl (by decide) rfl (fun ls hl => ?_)
        refine lv_goto (tgt := 4) hx0 hb dX10_presentBefore_23 (by decide) ?_
        exact ih (x2 + (1 : Int32)) (x3 + (1 : Int32)) h _ _ _ hW hS (lv_sub hl [2, 3, 1, 0] rfl)
def fX10_presentBefore (o0 : Nat) (x1 : Int32) (σ : Mem) : Option Int32 :=
  (fX10_presentBefore_l4 o0 x1 FU (0 : Int32) (0 : Int32) σ).bind fun q4 => some q4.1
set_option maxRecDepth 100000 in
set_option maxHeartbeats 4000000 in
theorem mX10_presentBefore {l : Launch} {E : Ev} {b : Nat} (o0 : Nat) (x1 : Int32) (ho0 : kd o0 = 10) (σ : Mem) (r : Int32) (h : fX10_presentBefore o0 x1 σ = some r) : Met l yX10_presentBefore (tw yX10_presentBefore cX10_presentBefore 4 (some .int)) { frames := 2, cells := 0, slots := 0, locals := 42 } (va_Pc [.ref (b + o0), .int x1] (Pr l E (LC E b) σ)) (Qz E (LC E b) (some (.int r)) σ) 0 0 (La (LC E b)) := by
  refine ct_of (by decide) (by decide) ?_
  intro p e s m below meth c C hW hS ls hl
  have hx := C.1
  have hb := C.2.1
  have hl : lv_has ls 4 [(0, .ref (b + o0)), (1, .int x1)] := hl
  unfold fX10_presentBefore at h
  refine lv_iconst (v := (0 : Int32)) hx hb dX10_presentBefore_0 (by decide) ?_
  refine lv_istore_n (lv' := [(2, .int (0 : Int32)), (0, .ref (b + o0)), (1, .int x1)]) hx hb dX10_presentBefore_1 rfl hl (by decide) rfl (fun ls hl => ?_)
  refine lv_iconst (v := (0 : Int32)) hx hb dX10_presentBefore_2 (by decide) ?_
  refine lv_istore_n (lv' := [(3, .int (0 : Int32)), (2, .int (0 : Int32)), (0, .ref (b + o0)), (1, .int x1)]) hx hb dX10_presentBefore_3 rfl hl (by decide) rfl (fun ls hl => ?_)
  obtain ⟨q4, h4, h⟩ := bnd h
  dsimp only at h
  refine bX10_presentBefore_l4 C o0 x1 ho0 σ (q := q4) ?_ FU (0 : Int32) (0 : Int32) h4 _ _ _ hW hS (lv_sub hl [2, 3, 1, 0] rfl)
  intro H locs ls hW hS hl
  refine lv_iload_n hx hb dX10_presentBefore_26 rfl (lv_at hl 2 rfl) ?_
  cases h
  exact w_iret C hW hS dX10_presentBefore_27
def fX10_presentLeaf_l4 (o0 : Nat) (x1 : Int32) : Nat → Int32 → Int32 → Mem → Option (Int32 ⊕ (Int32 × Int32))
  | 0, _, _, _ => none
  | n + 1, x2, x3, σ => if (σ o0 6) ≤ x3 then (some (.inr (x2, x3))) else ((fX10_isPresent o0 x3 σ).bind fun v14 => if v14 = 0 then (fX10_presentLeaf_l4 o0 x1 n x2 (x3 + (1 : Int32)) σ) else (if x2 = x1 then (some (.inl x3)) else (fX10_presentLeaf_l4 o0 x1 n (x2 + (1 : Int32)) (x3 + (1 : Int32)) σ)))
set_option maxRecDepth 100000 in
set_option maxHeartbeats 4000000 in
theorem bX10_presentLeaf_l4 {p : Program} {l : Launch} {e : Env} {s : State} {m : MethodId} {args : Array Value} {below : List Frame} {meth : Method} {c : Code} {E : Ev} {b : Nat} (C : Cx p l s m args meth c E cX10_presentLeaf 4 RX10 (some .int)) (o0 : Nat) (x1 : Int32) (ho0 : kd o0 = 10) (σ : Mem) (r0 : Int32) {q0 : Int32 ⊕ (Int32 × Int32)} (hr : ∀ r, q0 = .inl r → r = r0) (hx : ∀ q, q0 = .inr q → ∀ H locs ls, Wd E (LC E b) σ H → va_S (La (LC E b)) s.heap H locs → lv_has ls 4 [(0, .ref (b + o0)), (1, .int x1), (2, .int q.1), (3, .int q.2)] → W p l e { frames := 2, cells := 0, slots := 0, locals := 42 } s m args below meth c H locs 0 0 (MQ below (Qz E (LC E b) (some (.int r0)) σ) args s 0 0 (La (LC E b))) (F0 m 36 ls [])) : ∀ (n : Nat) (x2 : Int32) (x3 : Int32), fX10_presentLeaf_l4 o0 x1 n x2 x3 σ = some q0 → ∀ (H : Heap) (locs : List Loc) (ls : Array Slot), Wd E (LC E b) σ H → va_S (La (LC E b)) s.heap H locs → lv_has ls 4 [(0, .ref (b + o0)), (1, .int x1), (2, .int x2), (3, .int x3)] → W p l e { frames := 2, cells := 0, slots := 0, locals := 42 } s m args below meth c H locs 0 0 (MQ below (Qz E (LC E b) (some (.int r0)) σ) args s 0 0 (La (LC E b))) (F0 m 4 ls []) := by
  have hx0 := C.1
  have hb := C.2.1
  intro n
  induction n with
  | zero => intro x2 x3 h; simp [fX10_presentLeaf_l4] at h
  | succ n ih =>
    intro x2 x3 h H locs ls hW hS hl
    unfold fX10_presentLeaf_l4 at h
    refine lv_iload_n hx0 hb dX10_presentLeaf_4 rfl (lv_at hl 3 rfl) ?_
    refine lv_aload_n hx0 hb dX10_presentLeaf_5 rfl (lv_at hl 0 rfl) ?_
    refine gtX10_6 (k := o0) C hW ho0 flX10_36 dX10_presentLeaf_6 ?_
    refine lv_icmp_ge (tgt := 36) hx0 hb dX10_presentLeaf_9 (by decide) (fun c9 => ?_) (fun c9 => ?_)
    · rw [if_pos c9] at h
      cases h
      exact hx _ rfl _ _ _ hW hS (lv_sub hl [0, 1, 2, 3] rfl)
    · rw [if_neg c9] at h
      refine lv_aload_n hx0 hb dX10_presentLeaf_12 rfl (lv_at hl 0 rfl) ?_
      refine lv_iload_n hx0 hb dX10_presentLeaf_13 rfl (lv_at hl 3 rfl) ?_
      obtain ⟨v14, h14, h⟩ := bnd h
      dsimp only at h
      refine w_callV (L := (LC E b)) (k := o0) (As := [.int x3]) (rest := []) C hW hS (kdlt ho0 (by decide)) (ccX10 ho0) kcX10 (mX10_isPresent o0 x3 ho0 σ v14 h14) cwX10_isPresent cvX10_isPresent rfl mlX10_77 ⟨by decide, by decide⟩ rfl hl.1 (by decide) ⟨by decide, by decide⟩ dX10_presentLeaf_14 rfl (fun H locs hW hS => ?_)
      refine lv_if_eq (tgt := 30) hx0 hb dX10_presentLeaf_17 (by decide) (fun c17 => ?_) (fun c17 => ?_)
      · rw [if_pos c17] at h
        refine lv_iinc (v := x3 + (1 : Int32)) (lv' := [(3, .int (x3 + (1 : Int32))), (0, .ref (b + o0)), (1, .int x1), (2, .int x2)]) hx0 hb dX10_presentLeaf_30 hl (k := 3) rfl rfl (by decide) rfl (fun ls hl => ?_)
        refine lv_goto (tgt := 4) hx0 hb dX10_presentLeaf_33 (by decide) ?_
        exact ih x2 (x3 + (1 : Int32)) h _ _ _ hW hS (lv_sub hl [1, 2, 3, 0] rfl)
      · rw [if_neg c17] at h
        refine lv_iload_n hx0 hb dX10_presentLeaf_20 rfl (lv_at hl 2 rfl) ?_
        refine lv_iload_n hx0 hb dX10_presentLeaf_21 rfl (lv_at hl 1 rfl) ?_
        refine lv_icmp_ne (tgt := 27) hx0 hb dX10_presentLeaf_22 (by decide) (fun c22 => ?_) (fun c22 => ?_)
        · rw [if_neg c22] at h
          refine lv_iinc (v := x2 + (1 : Int32)) (lv' := [(2, .int (x2 + (1 : Int32))), (0, .ref (b + o0)), (1, .int x1), (3, .int x3)]) hx0 hb dX10_presentLeaf_27 hl (k := 2) rfl rfl (by decide) rfl (fun ls hl => ?_)
          refine lv_iinc (v := x3 + (1 : Int32)) (lv' := [(3, .int (x3 + (1 : Int32))), (2, .int (x2 + (1 : Int32))), (0, .ref (b + o0)), (1, .int x1)]) hx0 hb dX10_presentLeaf_30 hl (k := 3) rfl rfl (by decide) rfl (fun ls hl => ?_)
          refine lv_goto (tgt := 4) hx0 hb dX10_presentLeaf_33 (by decide) ?_
          exact ih (x2 + (1 : Int32)) (x3 + (1 : Int32)) h _ _ _ hW hS (lv_sub hl [2, 3, 1, 0] rfl)
        · rw [if_pos c22] at h
          refine lv_iload_n hx0 hb dX10_presentLeaf_25 rfl (lv_at hl 3 rfl) ?_
          cases h
          cases hr _ rfl
          exact w_iret C hW hS dX10_presentLeaf_26
def fX10_presentLeaf (o0 : Nat) (x1 : Int32) (σ : Mem) : Option Int32 :=
  (fX10_presentLeaf_l4 o0 x1 FU (0 : Int32) (0 : Int32) σ).bind fun q4 => match q4 with | .inl r => some r | .inr q4 => some (-1 : Int32)
set_option maxRecDepth 100000 in
set_option maxHeartbeats 4000000 in
theorem mX10_presentLeaf {l : Launch} {E : Ev} {b : Nat} (o0 : Nat) (x1 : Int32) (ho0 : kd o0 = 10) (σ : Mem) (r : Int32) (h : fX10_presentLeaf o0 x1 σ = some r) : Met l yX10_presentLeaf (tw yX10_presentLeaf cX10_presentLeaf 4 (some .int)) { frames := 2, cells := 0, slots := 0, locals := 42 } (va_Pc [.ref (b + o0), .int x1] (Pr l E (LC E b) σ)) (Qz E (LC E b) (some (.int r)) σ) 0 0 (La (LC E b)) := by
  refine ct_of (by decide) (by decide) ?_
  intro p e s m below meth c C hW hS ls hl
  have hx := C.1
  have hb := C.2.1
  have hl : lv_has ls 4 [(0, .ref (b + o0)), (1, .int x1)] := hl
  unfold fX10_presentLeaf at h
  refine lv_iconst (v := (0 : Int32)) hx hb dX10_presentLeaf_0 (by decide) ?_
  refine lv_istore_n (lv' := [(2, .int (0 : Int32)), (0, .ref (b + o0)), (1, .int x1)]) hx hb dX10_presentLeaf_1 rfl hl (by decide) rfl (fun ls hl => ?_)
  refine lv_iconst (v := (0 : Int32)) hx hb dX10_presentLeaf_2 (by decide) ?_
  refine lv_istore_n (lv' := [(3, .int (0 : Int32)), (2, .int (0 : Int32)), (0, .ref (b + o0)), (1, .int x1)]) hx hb dX10_presentLeaf_3 rfl hl (by decide) rfl (fun ls hl => ?_)
  obtain ⟨q4, h4, h⟩ := bnd h
  refine bX10_presentLeaf_l4 C o0 x1 ho0 σ r (q0 := q4) ?_ ?_ FU (0 : Int32) (0 : Int32) h4 _ _ _ hW hS (lv_sub hl [2, 3, 1, 0] rfl)
  · intro r1 hq; subst hq; dsimp only at h; exact Option.some.inj h
  · intro q4 hq H locs ls hW hS hl
    subst hq; dsimp only at h
    refine lv_iconst (v := (-1 : Int32)) hx hb dX10_presentLeaf_36 (by decide) ?_
    cases h
    exact w_iret C hW hS dX10_presentLeaf_37
