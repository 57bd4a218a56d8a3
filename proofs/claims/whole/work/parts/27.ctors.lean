/-! the class's constructors, by program out of the bytecode -/
set_option maxRecDepth 100000 in
set_option maxHeartbeats 4000000 in
theorem nX3 {l : Launch} {E : Ev} {b : Nat} (k len : Nat) (hk0 : kd k = 3) (hlen : kd (k + 1) = 100 + len) (hp : 0 < len) (hs : len ≤ 10000) : Met l yX3_init (tw yX3_init cX3_init 2 none) { frames := 1, cells := 1, slots := len, locals := 13 } (va_Pc [.ref (b + k), .int (Int32.ofNat len)] (Pk l E b k 3 [.null])) (Qk E b k 2) 1 len (fun q => b + k ≤ q) := by
  refine ck_of (by decide) rfl (Nat.le_of_ble_eq_true rfl) ?_
  intro p e s m below meth c C hin hk ls hl
  have hx0 := C.1
  have hb := C.2.1
  have hl : lv_has ls 2 [(0, .ref (b + k)), (1, .int (Int32.ofNat len))] := hl
  refine lv_aload_n hx0 hb dX3_init_0 rfl (lv_at hl 0 rfl) ?_
  refine k_obj C mlX3_1 hl.1 ⟨Nat.le_of_ble_eq_true rfl, Nat.le_of_ble_eq_true rfl⟩ dX3_init_1 ?_
  refine lv_aload_n hx0 hb dX3_init_4 rfl (lv_at hl 0 rfl) ?_
  refine lv_iload_n hx0 hb dX3_init_5 rfl (lv_at hl 1 rfl) ?_
  refine lv_if_le (tgt := 13) hx0 hb dX3_init_6 (by decide) (fun z => absurd z (pos_le hp hs)) (fun _ => ?_)
  refine lv_iload_n hx0 hb dX3_init_9 rfl (lv_at hl 1 rfl) ?_
  refine lv_goto (tgt := 14) hx0 hb dX3_init_10 (by decide) ?_
  refine k_newa (N := len) C hk hlen (pos_lt hs) (pos_nat hs) hs ⟨by show 0 + 1 ≤ 1; decide, by show 0 + len ≤ len; omega⟩ dX3_init_14 (fun H hk => ?_)
  have e0 : 0 + len = len := by omega
  rw [e0]
  refine k_putF C hin hk kcX3 0 (by decide) flX3_7 rfl rfl rfl rfl (Nat.le_of_ble_eq_true rfl) (fs' := [.ref (b + (k + (1 + 0)))]) rfl dX3_init_16 (fun H locs hk => ?_)
  exact k_ret C hk (ccX3 hk0) dX3_init_19
set_option maxRecDepth 100000 in
set_option maxHeartbeats 4000000 in
theorem nX8 {l : Launch} {E : Ev} {b : Nat} (k len : Nat) (hk0 : kd k = 8) (hlen : kd (k + 1) = 100 + len) (hp : 0 < len) (hs : len ≤ 10000) : Met l yX8_init (tw yX8_init cX8_init 2 none) { frames := 1, cells := 1, slots := len, locals := 13 } (va_Pc [.ref (b + k), .int (Int32.ofNat len)] (Pk l E b k 8 [.null, .int 0])) (Qk E b k 2) 1 len (fun q => b + k ≤ q) := by
  refine ck_of (by decide) rfl (Nat.le_of_ble_eq_true rfl) ?_
  intro p e s m below meth c C hin hk ls hl
  have hx0 := C.1
  have hb := C.2.1
  have hl : lv_has ls 2 [(0, .ref (b + k)), (1, .int (Int32.ofNat len))] := hl
  refine lv_aload_n hx0 hb dX8_init_0 rfl (lv_at hl 0 rfl) ?_
  refine k_obj C mlX8_3 hl.1 ⟨Nat.le_of_ble_eq_true rfl, Nat.le_of_ble_eq_true rfl⟩ dX8_init_1 ?_
  refine lv_aload_n hx0 hb dX8_init_4 rfl (lv_at hl 0 rfl) ?_
  refine lv_iconst (v := (0 : Int32)) hx0 hb dX8_init_5 (by decide) ?_
  refine k_put C hk kcX8 1 (by decide) flX8_9 rfl rfl rfl (Nat.le_of_ble_eq_true rfl) (fs' := [.null, .int (0 : Int32)]) rfl dX8_init_6 (fun H locs hk => ?_)
  refine lv_aload_n hx0 hb dX8_init_9 rfl (lv_at hl 0 rfl) ?_
  refine lv_iload_n hx0 hb dX8_init_10 rfl (lv_at hl 1 rfl) ?_
  refine lv_if_le (tgt := 18) hx0 hb dX8_init_11 (by decide) (fun z => absurd z (pos_le hp hs)) (fun _ => ?_)
  refine lv_iload_n hx0 hb dX8_init_14 rfl (lv_at hl 1 rfl) ?_
  refine lv_goto (tgt := 19) hx0 hb dX8_init_15 (by decide) ?_
  refine k_newa (N := len) C hk hlen (pos_lt hs) (pos_nat hs) hs ⟨by show 0 + 1 ≤ 1; decide, by show 0 + len ≤ len; omega⟩ dX8_init_19 (fun H hk => ?_)
  have e0 : 0 + len = len := by omega
  rw [e0]
  refine k_putF C hin hk kcX8 0 (by decide) flX8_15 rfl rfl rfl rfl (Nat.le_of_ble_eq_true rfl) (fs' := [.ref (b + (k + (1 + 0))), .int (0 : Int32)]) rfl dX8_init_21 (fun H locs hk => ?_)
  exact k_ret C hk (by have h9 := ccX8 (E := E) (b := b) (σ := Z0) hk0; simp only [z0 hk0 (by decide)] at h9; exact h9) dX8_init_24
set_option maxRecDepth 100000 in
set_option maxHeartbeats 4000000 in
theorem nX10 {l : Launch} {E : Ev} {b : Nat} (k : Nat) (hk0 : kd k = 10) : Met l yX10_init (tw yX10_init cX10_init 1 none) { frames := 2, cells := 10, slots := 109, locals := 34 } (va_Pc [.ref (b + k)] (Pk l E b k 10 [.null, .null, .null, .null, .null, .int 0, .int 0, .int 0])) (Qk E b k 11) 10 109 (fun q => b + k ≤ q) := by
  refine ck_of (by decide) rfl (Nat.le_of_ble_eq_true rfl) ?_
  intro p e s m below meth c C hin hk ls hl
  have hx0 := C.1
  have hb := C.2.1
  have hl : lv_has ls 1 [(0, .ref (b + k))] := hl
  refine lv_aload_n hx0 hb dX10_init_0 rfl (lv_at hl 0 rfl) ?_
  refine k_obj C mlX10_3 hl.1 ⟨Nat.le_of_ble_eq_true rfl, Nat.le_of_ble_eq_true rfl⟩ dX10_init_1 ?_
  refine lv_aload_n hx0 hb dX10_init_4 rfl (lv_at hl 0 rfl) ?_
  refine k_new (cp := 3) (fp := [.null]) C hk kcX3 clX10_9 inX3 iniX3 (fun j hj => by rcases (show j = 0 by omega) with rfl <;> rfl) ⟨by decide, by decide⟩ dX10_init_5 (fun H hk => ?_)
  refine lv_dup hx0 hb dX10_init_8 rfl ?_
  refine lv_bipush (v := (8 : Int32)) hx0 hb dX10_init_9 (by decide) ?_
  refine k_ctor (As := [.int (8 : Int32)]) (rest := [.ref (b + (k + (1 + 0))), .ref (b + k)]) C hk (nX3 (k + (1 + 0)) 8 (chX10_0 hk0) (cqX10_1 hk0) (by decide) (by decide)) cwX3_init imX3_init rfl mlX10_11 ⟨by decide, by decide⟩ rfl hl.1 (Nat.le_of_ble_eq_true rfl) ⟨by decide, by decide⟩ dX10_init_11 rfl (fun H locs hk => ?_)
  refine k_putF C hin hk kcX10 0 (by decide) flX10_14 rfl rfl rfl rfl (Nat.le_of_ble_eq_true rfl) (fs' := [.ref (b + (k + (1 + 0))), .null, .null, .null, .null, .int 0, .int 0, .int 0]) rfl dX10_init_14 (fun H locs hk => ?_)
  refine lv_aload_n hx0 hb dX10_init_17 rfl (lv_at hl 0 rfl) ?_
  refine k_new (cp := 3) (fp := [.null]) C hk kcX3 clX10_9 inX3 iniX3 (fun j hj => by rcases (show j = 0 by omega) with rfl <;> rfl) ⟨by decide, by decide⟩ dX10_init_18 (fun H hk => ?_)
  refine lv_dup hx0 hb dX10_init_21 rfl ?_
  refine lv_bipush (v := (60 : Int32)) hx0 hb dX10_init_22 (by decide) ?_
  refine k_ctor (As := [.int (60 : Int32)]) (rest := [.ref (b + (k + (1 + 2))), .ref (b + k)]) C hk (nX3 (k + (1 + 2)) 60 (chX10_1 hk0) (cqX10_3 hk0) (by decide) (by decide)) cwX3_init imX3_init rfl mlX10_11 ⟨by decide, by decide⟩ rfl hl.1 (Nat.le_of_ble_eq_true rfl) ⟨by decide, by decide⟩ dX10_init_24 rfl (fun H locs hk => ?_)
  refine k_putF C hin hk kcX10 1 (by decide) flX10_20 rfl rfl rfl rfl (Nat.le_of_ble_eq_true rfl) (fs' := [.ref (b + (k + (1 + 0))), .ref (b + (k + (1 + 2))), .null, .null, .null, .int 0, .int 0, .int 0]) rfl dX10_init_27 (fun H locs hk => ?_)
  refine lv_aload_n hx0 hb dX10_init_30 rfl (lv_at hl 0 rfl) ?_
  refine k_new (cp := 3) (fp := [.null]) C hk kcX3 clX10_9 inX3 iniX3 (fun j hj => by rcases (show j = 0 by omega) with rfl <;> rfl) ⟨by decide, by decide⟩ dX10_init_31 (fun H hk => ?_)
  refine lv_dup hx0 hb dX10_init_34 rfl ?_
  refine lv_bipush (v := (12 : Int32)) hx0 hb dX10_init_35 (by decide) ?_
  refine k_ctor (As := [.int (12 : Int32)]) (rest := [.ref (b + (k + (1 + 4))), .ref (b + k)]) C hk (nX3 (k + (1 + 4)) 12 (chX10_2 hk0) (cqX10_5 hk0) (by decide) (by decide)) cwX3_init imX3_init rfl mlX10_11 ⟨by decide, by decide⟩ rfl hl.1 (Nat.le_of_ble_eq_true rfl) ⟨by decide, by decide⟩ dX10_init_37 rfl (fun H locs hk => ?_)
  refine k_putF C hin hk kcX10 2 (by decide) flX10_23 rfl rfl rfl rfl (Nat.le_of_ble_eq_true rfl) (fs' := [.ref (b + (k + (1 + 0))), .ref (b + (k + (1 + 2))), .ref (b + (k + (1 + 4))), .null, .null, .int 0, .int 0, .int 0]) rfl dX10_init_40 (fun H locs hk => ?_)
  refine lv_aload_n hx0 hb dX10_init_43 rfl (lv_at hl 0 rfl) ?_
  refine k_new (cp := 3) (fp := [.null]) C hk kcX3 clX10_9 inX3 iniX3 (fun j hj => by rcases (show j = 0 by omega) with rfl <;> rfl) ⟨by decide, by decide⟩ dX10_init_44 (fun H hk => ?_)
  refine lv_dup hx0 hb dX10_init_47 rfl ?_
  refine lv_bipush (v := (12 : Int32)) hx0 hb dX10_init_48 (by decide) ?_
  refine k_ctor (As := [.int (12 : Int32)]) (rest := [.ref (b + (k + (1 + 6))), .ref (b + k)]) C hk (nX3 (k + (1 + 6)) 12 (chX10_3 hk0) (cqX10_7 hk0) (by decide) (by decide)) cwX3_init imX3_init rfl mlX10_11 ⟨by decide, by decide⟩ rfl hl.1 (Nat.le_of_ble_eq_true rfl) ⟨by decide, by decide⟩ dX10_init_50 rfl (fun H locs hk => ?_)
  refine k_putF C hin hk kcX10 3 (by decide) flX10_26 rfl rfl rfl rfl (Nat.le_of_ble_eq_true rfl) (fs' := [.ref (b + (k + (1 + 0))), .ref (b + (k + (1 + 2))), .ref (b + (k + (1 + 4))), .ref (b + (k + (1 + 6))), .null, .int 0, .int 0, .int 0]) rfl dX10_init_53 (fun H locs hk => ?_)
  refine lv_aload_n hx0 hb dX10_init_56 rfl (lv_at hl 0 rfl) ?_
  refine k_new (cp := 3) (fp := [.null]) C hk kcX3 clX10_9 inX3 iniX3 (fun j hj => by rcases (show j = 0 by omega) with rfl <;> rfl) ⟨by decide, by decide⟩ dX10_init_57 (fun H hk => ?_)
  refine lv_dup hx0 hb dX10_init_60 rfl ?_
  refine lv_bipush (v := (12 : Int32)) hx0 hb dX10_init_61 (by decide) ?_
  refine k_ctor (As := [.int (12 : Int32)]) (rest := [.ref (b + (k + (1 + 8))), .ref (b + k)]) C hk (nX3 (k + (1 + 8)) 12 (chX10_4 hk0) (cqX10_9 hk0) (by decide) (by decide)) cwX3_init imX3_init rfl mlX10_11 ⟨by decide, by decide⟩ rfl hl.1 (Nat.le_of_ble_eq_true rfl) ⟨by decide, by decide⟩ dX10_init_63 rfl (fun H locs hk => ?_)
  refine k_putF C hin hk kcX10 4 (by decide) flX10_29 rfl rfl rfl rfl (Nat.le_of_ble_eq_true rfl) (fs' := [.ref (b + (k + (1 + 0))), .ref (b + (k + (1 + 2))), .ref (b + (k + (1 + 4))), .ref (b + (k + (1 + 6))), .ref (b + (k + (1 + 8))), .int 0, .int 0, .int 0]) rfl dX10_init_66 (fun H locs hk => ?_)
  refine lv_aload_n hx0 hb dX10_init_69 rfl (lv_at hl 0 rfl) ?_
  refine lv_iconst (v := (0 : Int32)) hx0 hb dX10_init_70 (by decide) ?_
  refine k_put C hk kcX10 5 (by decide) flX10_32 rfl rfl rfl (Nat.le_of_ble_eq_true rfl) (fs' := [.ref (b + (k + (1 + 0))), .ref (b + (k + (1 + 2))), .ref (b + (k + (1 + 4))), .ref (b + (k + (1 + 6))), .ref (b + (k + (1 + 8))), .int (0 : Int32), .int 0, .int 0]) rfl dX10_init_71 (fun H locs hk => ?_)
  refine lv_aload_n hx0 hb dX10_init_74 rfl (lv_at hl 0 rfl) ?_
  refine lv_iconst (v := (0 : Int32)) hx0 hb dX10_init_75 (by decide) ?_
  refine k_put C hk kcX10 6 (by decide) flX10_36 rfl rfl rfl (Nat.le_of_ble_eq_true rfl) (fs' := [.ref (b + (k + (1 + 0))), .ref (b + (k + (1 + 2))), .ref (b + (k + (1 + 4))), .ref (b + (k + (1 + 6))), .ref (b + (k + (1 + 8))), .int (0 : Int32), .int (0 : Int32), .int 0]) rfl dX10_init_76 (fun H locs hk => ?_)
  refine lv_aload_n hx0 hb dX10_init_79 rfl (lv_at hl 0 rfl) ?_
  refine lv_iconst (v := (0 : Int32)) hx0 hb dX10_init_80 (by decide) ?_
  refine k_put C hk kcX10 7 (by decide) flX10_39 rfl rfl rfl (Nat.le_of_ble_eq_true rfl) (fs' := [.ref (b + (k + (1 + 0))), .ref (b + (k + (1 + 2))), .ref (b + (k + (1 + 4))), .ref (b + (k + (1 + 6))), .ref (b + (k + (1 + 8))), .int (0 : Int32), .int (0 : Int32), .int (0 : Int32)]) rfl dX10_init_81 (fun H locs hk => ?_)
  exact k_ret C hk (by have h9 := ccX10 (E := E) (b := b) (σ := Z0) hk0; simp only [z0 hk0 (by decide)] at h9; exact h9) dX10_init_84
set_option maxRecDepth 100000 in
set_option maxHeartbeats 4000000 in
theorem nX1 {l : Launch} {E : Ev} {b : Nat} (k : Nat) (hk0 : kd k = 1) : Met l yX1_init (tw yX1_init cX1_init 1 none) { frames := 2, cells := 8, slots := 52, locals := 34 } (va_Pc [.ref (b + k)] (Pk l E b k 1 [.null, .null, .null, .null, .int 0])) (Qk E b k 9) 8 52 (fun q => b + k ≤ q) := by
  refine ck_of (by decide) rfl (Nat.le_of_ble_eq_true rfl) ?_
  intro p e s m below meth c C hin hk ls hl
  have hx0 := C.1
  have hb := C.2.1
  have hl : lv_has ls 1 [(0, .ref (b + k))] := hl
  refine lv_aload_n hx0 hb dX1_init_0 rfl (lv_at hl 0 rfl) ?_
  refine k_obj C mlX1_3 hl.1 ⟨Nat.le_of_ble_eq_true rfl, Nat.le_of_ble_eq_true rfl⟩ dX1_init_1 ?_
  refine lv_aload_n hx0 hb dX1_init_4 rfl (lv_at hl 0 rfl) ?_
  refine k_new (cp := 3) (fp := [.null]) C hk kcX3 clX1_9 inX3 iniX3 (fun j hj => by rcases (show j = 0 by omega) with rfl <;> rfl) ⟨by decide, by decide⟩ dX1_init_5 (fun H hk => ?_)
  refine lv_dup hx0 hb dX1_init_8 rfl ?_
  refine lv_bipush (v := (12 : Int32)) hx0 hb dX1_init_9 (by decide) ?_
  refine k_ctor (As := [.int (12 : Int32)]) (rest := [.ref (b + (k + (1 + 0))), .ref (b + k)]) C hk (nX3 (k + (1 + 0)) 12 (chX1_0 hk0) (cqX1_1 hk0) (by decide) (by decide)) cwX3_init imX3_init rfl mlX1_11 ⟨by decide, by decide⟩ rfl hl.1 (Nat.le_of_ble_eq_true rfl) ⟨by decide, by decide⟩ dX1_init_11 rfl (fun H locs hk => ?_)
  refine k_putF C hin hk kcX1 0 (by decide) flX1_14 rfl rfl rfl rfl (Nat.le_of_ble_eq_true rfl) (fs' := [.ref (b + (k + (1 + 0))), .null, .null, .null, .int 0]) rfl dX1_init_14 (fun H locs hk => ?_)
  refine lv_aload_n hx0 hb dX1_init_17 rfl (lv_at hl 0 rfl) ?_
  refine k_new (cp := 3) (fp := [.null]) C hk kcX3 clX1_9 inX3 iniX3 (fun j hj => by rcases (show j = 0 by omega) with rfl <;> rfl) ⟨by decide, by decide⟩ dX1_init_18 (fun H hk => ?_)
  refine lv_dup hx0 hb dX1_init_21 rfl ?_
  refine lv_bipush (v := (12 : Int32)) hx0 hb dX1_init_22 (by decide) ?_
  refine k_ctor (As := [.int (12 : Int32)]) (rest := [.ref (b + (k + (1 + 2))), .ref (b + k)]) C hk (nX3 (k + (1 + 2)) 12 (chX1_1 hk0) (cqX1_3 hk0) (by decide) (by decide)) cwX3_init imX3_init rfl mlX1_11 ⟨by decide, by decide⟩ rfl hl.1 (Nat.le_of_ble_eq_true rfl) ⟨by decide, by decide⟩ dX1_init_24 rfl (fun H locs hk => ?_)
  refine k_putF C hin hk kcX1 1 (by decide) flX1_20 rfl rfl rfl rfl (Nat.le_of_ble_eq_true rfl) (fs' := [.ref (b + (k + (1 + 0))), .ref (b + (k + (1 + 2))), .null, .null, .int 0]) rfl dX1_init_27 (fun H locs hk => ?_)
  refine lv_aload_n hx0 hb dX1_init_30 rfl (lv_at hl 0 rfl) ?_
  refine k_new (cp := 3) (fp := [.null]) C hk kcX3 clX1_9 inX3 iniX3 (fun j hj => by rcases (show j = 0 by omega) with rfl <;> rfl) ⟨by decide, by decide⟩ dX1_init_31 (fun H hk => ?_)
  refine lv_dup hx0 hb dX1_init_34 rfl ?_
  refine lv_bipush (v := (12 : Int32)) hx0 hb dX1_init_35 (by decide) ?_
  refine k_ctor (As := [.int (12 : Int32)]) (rest := [.ref (b + (k + (1 + 4))), .ref (b + k)]) C hk (nX3 (k + (1 + 4)) 12 (chX1_2 hk0) (cqX1_5 hk0) (by decide) (by decide)) cwX3_init imX3_init rfl mlX1_11 ⟨by decide, by decide⟩ rfl hl.1 (Nat.le_of_ble_eq_true rfl) ⟨by decide, by decide⟩ dX1_init_37 rfl (fun H locs hk => ?_)
  refine k_putF C hin hk kcX1 2 (by decide) flX1_23 rfl rfl rfl rfl (Nat.le_of_ble_eq_true rfl) (fs' := [.ref (b + (k + (1 + 0))), .ref (b + (k + (1 + 2))), .ref (b + (k + (1 + 4))), .null, .int 0]) rfl dX1_init_40 (fun H locs hk => ?_)
  refine lv_aload_n hx0 hb dX1_init_43 rfl (lv_at hl 0 rfl) ?_
  refine k_new (cp := 3) (fp := [.null]) C hk kcX3 clX1_9 inX3 iniX3 (fun j hj => by rcases (show j = 0 by omega) with rfl <;> rfl) ⟨by decide, by decide⟩ dX1_init_44 (fun H hk => ?_)
  refine lv_dup hx0 hb dX1_init_47 rfl ?_
  refine lv_bipush (v := (12 : Int32)) hx0 hb dX1_init_48 (by decide) ?_
  refine k_ctor (As := [.int (12 : Int32)]) (rest := [.ref (b + (k + (1 + 6))), .ref (b + k)]) C hk (nX3 (k + (1 + 6)) 12 (chX1_3 hk0) (cqX1_7 hk0) (by decide) (by decide)) cwX3_init imX3_init rfl mlX1_11 ⟨by decide, by decide⟩ rfl hl.1 (Nat.le_of_ble_eq_true rfl) ⟨by decide, by decide⟩ dX1_init_50 rfl (fun H locs hk => ?_)
  refine k_putF C hin hk kcX1 3 (by decide) flX1_26 rfl rfl rfl rfl (Nat.le_of_ble_eq_true rfl) (fs' := [.ref (b + (k + (1 + 0))), .ref (b + (k + (1 + 2))), .ref (b + (k + (1 + 4))), .ref (b + (k + (1 + 6))), .int 0]) rfl dX1_init_53 (fun H locs hk => ?_)
  refine lv_aload_n hx0 hb dX1_init_56 rfl (lv_at hl 0 rfl) ?_
  refine lv_iconst (v := (0 : Int32)) hx0 hb dX1_init_57 (by decide) ?_
  refine k_put C hk kcX1 4 (by decide) flX1_29 rfl rfl rfl (Nat.le_of_ble_eq_true rfl) (fs' := [.ref (b + (k + (1 + 0))), .ref (b + (k + (1 + 2))), .ref (b + (k + (1 + 4))), .ref (b + (k + (1 + 6))), .int (0 : Int32)]) rfl dX1_init_58 (fun H locs hk => ?_)
  exact k_ret C hk (by have h9 := ccX1 (E := E) (b := b) (σ := Z0) hk0; simp only [z0 hk0 (by decide)] at h9; exact h9) dX1_init_61
set_option maxRecDepth 100000 in
set_option maxHeartbeats 4000000 in
theorem nX5 {l : Launch} {E : Ev} {b : Nat} (k : Nat) (hk0 : kd k = 5) : Met l yX5_init (tw yX5_init cX5_init 1 none) { frames := 2, cells := 6, slots := 183, locals := 34 } (va_Pc [.ref (b + k)] (Pk l E b k 5 [.null, .null, .null, .int 0])) (Qk E b k 7) 6 183 (fun q => b + k ≤ q) := by
  refine ck_of (by decide) rfl (Nat.le_of_ble_eq_true rfl) ?_
  intro p e s m below meth c C hin hk ls hl
  have hx0 := C.1
  have hb := C.2.1
  have hl : lv_has ls 1 [(0, .ref (b + k))] := hl
  refine lv_aload_n hx0 hb dX5_init_0 rfl (lv_at hl 0 rfl) ?_
  refine k_obj C mlX5_3 hl.1 ⟨Nat.le_of_ble_eq_true rfl, Nat.le_of_ble_eq_true rfl⟩ dX5_init_1 ?_
  refine lv_aload_n hx0 hb dX5_init_4 rfl (lv_at hl 0 rfl) ?_
  refine k_new (cp := 3) (fp := [.null]) C hk kcX3 clX5_9 inX3 iniX3 (fun j hj => by rcases (show j = 0 by omega) with rfl <;> rfl) ⟨by decide, by decide⟩ dX5_init_5 (fun H hk => ?_)
  refine lv_dup hx0 hb dX5_init_8 rfl ?_
  refine lv_bipush (v := (60 : Int32)) hx0 hb dX5_init_9 (by decide) ?_
  refine k_ctor (As := [.int (60 : Int32)]) (rest := [.ref (b + (k + (1 + 0))), .ref (b + k)]) C hk (nX3 (k + (1 + 0)) 60 (chX5_0 hk0) (cqX5_1 hk0) (by decide) (by decide)) cwX3_init imX3_init rfl mlX5_11 ⟨by decide, by decide⟩ rfl hl.1 (Nat.le_of_ble_eq_true rfl) ⟨by decide, by decide⟩ dX5_init_11 rfl (fun H locs hk => ?_)
  refine k_putF C hin hk kcX5 0 (by decide) flX5_14 rfl rfl rfl rfl (Nat.le_of_ble_eq_true rfl) (fs' := [.ref (b + (k + (1 + 0))), .null, .null, .int 0]) rfl dX5_init_14 (fun H locs hk => ?_)
  refine lv_aload_n hx0 hb dX5_init_17 rfl (lv_at hl 0 rfl) ?_
  refine k_new (cp := 3) (fp := [.null]) C hk kcX3 clX5_9 inX3 iniX3 (fun j hj => by rcases (show j = 0 by omega) with rfl <;> rfl) ⟨by decide, by decide⟩ dX5_init_18 (fun H hk => ?_)
  refine lv_dup hx0 hb dX5_init_21 rfl ?_
  refine lv_bipush (v := (60 : Int32)) hx0 hb dX5_init_22 (by decide) ?_
  refine k_ctor (As := [.int (60 : Int32)]) (rest := [.ref (b + (k + (1 + 2))), .ref (b + k)]) C hk (nX3 (k + (1 + 2)) 60 (chX5_1 hk0) (cqX5_3 hk0) (by decide) (by decide)) cwX3_init imX3_init rfl mlX5_11 ⟨by decide, by decide⟩ rfl hl.1 (Nat.le_of_ble_eq_true rfl) ⟨by decide, by decide⟩ dX5_init_24 rfl (fun H locs hk => ?_)
  refine k_putF C hin hk kcX5 1 (by decide) flX5_20 rfl rfl rfl rfl (Nat.le_of_ble_eq_true rfl) (fs' := [.ref (b + (k + (1 + 0))), .ref (b + (k + (1 + 2))), .null, .int 0]) rfl dX5_init_27 (fun H locs hk => ?_)
  refine lv_aload_n hx0 hb dX5_init_30 rfl (lv_at hl 0 rfl) ?_
  refine k_new (cp := 3) (fp := [.null]) C hk kcX3 clX5_9 inX3 iniX3 (fun j hj => by rcases (show j = 0 by omega) with rfl <;> rfl) ⟨by decide, by decide⟩ dX5_init_31 (fun H hk => ?_)
  refine lv_dup hx0 hb dX5_init_34 rfl ?_
  refine lv_bipush (v := (60 : Int32)) hx0 hb dX5_init_35 (by decide) ?_
  refine k_ctor (As := [.int (60 : Int32)]) (rest := [.ref (b + (k + (1 + 4))), .ref (b + k)]) C hk (nX3 (k + (1 + 4)) 60 (chX5_2 hk0) (cqX5_5 hk0) (by decide) (by decide)) cwX3_init imX3_init rfl mlX5_11 ⟨by decide, by decide⟩ rfl hl.1 (Nat.le_of_ble_eq_true rfl) ⟨by decide, by decide⟩ dX5_init_37 rfl (fun H locs hk => ?_)
  refine k_putF C hin hk kcX5 2 (by decide) flX5_23 rfl rfl rfl rfl (Nat.le_of_ble_eq_true rfl) (fs' := [.ref (b + (k + (1 + 0))), .ref (b + (k + (1 + 2))), .ref (b + (k + (1 + 4))), .int 0]) rfl dX5_init_40 (fun H locs hk => ?_)
  refine lv_aload_n hx0 hb dX5_init_43 rfl (lv_at hl 0 rfl) ?_
  refine lv_iconst (v := (0 : Int32)) hx0 hb dX5_init_44 (by decide) ?_
  refine k_put C hk kcX5 3 (by decide) flX5_26 rfl rfl rfl (Nat.le_of_ble_eq_true rfl) (fs' := [.ref (b + (k + (1 + 0))), .ref (b + (k + (1 + 2))), .ref (b + (k + (1 + 4))), .int (0 : Int32)]) rfl dX5_init_45 (fun H locs hk => ?_)
  exact k_ret C hk (by have h9 := ccX5 (E := E) (b := b) (σ := Z0) hk0; simp only [z0 hk0 (by decide)] at h9; exact h9) dX5_init_48
set_option maxRecDepth 100000 in
set_option maxHeartbeats 4000000 in
theorem nX9 {l : Launch} {E : Ev} {b : Nat} (k : Nat) (hk0 : kd k = 9) : Met l yX9_init (tw yX9_init cX9_init 1 none) { frames := 2, cells := 2, slots := 11, locals := 34 } (va_Pc [.ref (b + k)] (Pk l E b k 9 [.null, .int 0, .int 0])) (Qk E b k 3) 2 11 (fun q => b + k ≤ q) := by
  refine ck_of (by decide) rfl (Nat.le_of_ble_eq_true rfl) ?_
  intro p e s m below meth c C hin hk ls hl
  have hx0 := C.1
  have hb := C.2.1
  have hl : lv_has ls 1 [(0, .ref (b + k))] := hl
  refine lv_aload_n hx0 hb dX9_init_0 rfl (lv_at hl 0 rfl) ?_
  refine k_obj C mlX9_3 hl.1 ⟨Nat.le_of_ble_eq_true rfl, Nat.le_of_ble_eq_true rfl⟩ dX9_init_1 ?_
  refine lv_aload_n hx0 hb dX9_init_4 rfl (lv_at hl 0 rfl) ?_
  refine k_new (cp := 3) (fp := [.null]) C hk kcX3 clX9_9 inX3 iniX3 (fun j hj => by rcases (show j = 0 by omega) with rfl <;> rfl) ⟨by decide, by decide⟩ dX9_init_5 (fun H hk => ?_)
  refine lv_dup hx0 hb dX9_init_8 rfl ?_
  refine lv_bipush (v := (10 : Int32)) hx0 hb dX9_init_9 (by decide) ?_
  refine k_ctor (As := [.int (10 : Int32)]) (rest := [.ref (b + (k + (1 + 0))), .ref (b + k)]) C hk (nX3 (k + (1 + 0)) 10 (chX9_0 hk0) (cqX9_1 hk0) (by decide) (by decide)) cwX3_init imX3_init rfl mlX9_11 ⟨by decide, by decide⟩ rfl hl.1 (Nat.le_of_ble_eq_true rfl) ⟨by decide, by decide⟩ dX9_init_11 rfl (fun H locs hk => ?_)
  refine k_putF C hin hk kcX9 0 (by decide) flX9_14 rfl rfl rfl rfl (Nat.le_of_ble_eq_true rfl) (fs' := [.ref (b + (k + (1 + 0))), .int 0, .int 0]) rfl dX9_init_14 (fun H locs hk => ?_)
  refine lv_aload_n hx0 hb dX9_init_17 rfl (lv_at hl 0 rfl) ?_
  refine lv_iconst (v := (0 : Int32)) hx0 hb dX9_init_18 (by decide) ?_
  refine k_put C hk kcX9 1 (by decide) flX9_20 rfl rfl rfl (Nat.le_of_ble_eq_true rfl) (fs' := [.ref (b + (k + (1 + 0))), .int (0 : Int32), .int 0]) rfl dX9_init_19 (fun H locs hk => ?_)
  refine lv_aload_n hx0 hb dX9_init_22 rfl (lv_at hl 0 rfl) ?_
  refine lv_iconst (v := (0 : Int32)) hx0 hb dX9_init_23 (by decide) ?_
  refine k_put C hk kcX9 2 (by decide) flX9_24 rfl rfl rfl (Nat.le_of_ble_eq_true rfl) (fs' := [.ref (b + (k + (1 + 0))), .int (0 : Int32), .int (0 : Int32)]) rfl dX9_init_24 (fun H locs hk => ?_)
  exact k_ret C hk (by have h9 := ccX9 (E := E) (b := b) (σ := Z0) hk0; simp only [z0 hk0 (by decide)] at h9; exact h9) dX9_init_27
set_option maxRecDepth 100000 in
set_option maxHeartbeats 4000000 in
theorem nX7 {l : Launch} {E : Ev} {b : Nat} (k : Nat) (hk0 : kd k = 7) : Met l yX7_init (tw yX7_init cX7_init 1 none) { frames := 3, cells := 30, slots := 375, locals := 54 } (va_Pc [.ref (b + k)] (Pk l E b k 7 [.null, .null, .null, .null])) (Qk E b k 31) 30 375 (fun q => b + k ≤ q) := by
  refine ck_of (by decide) rfl (Nat.le_of_ble_eq_true rfl) ?_
  intro p e s m below meth c C hin hk ls hl
  have hx0 := C.1
  have hb := C.2.1
  have hl : lv_has ls 1 [(0, .ref (b + k))] := hl
  refine lv_aload_n hx0 hb dX7_init_0 rfl (lv_at hl 0 rfl) ?_
  refine k_obj C mlX7_1 hl.1 ⟨Nat.le_of_ble_eq_true rfl, Nat.le_of_ble_eq_true rfl⟩ dX7_init_1 ?_
  refine lv_aload_n hx0 hb dX7_init_4 rfl (lv_at hl 0 rfl) ?_
  refine k_new (cp := 10) (fp := [.null, .null, .null, .null, .null, .int 0, .int 0, .int 0]) C hk kcX10 clX7_7 inX10 iniX10 (fun j hj => by rcases (show j = 0 ∨ j = 1 ∨ j = 2 ∨ j = 3 ∨ j = 4 ∨ j = 5 ∨ j = 6 ∨ j = 7 by omega) with rfl | rfl | rfl | rfl | rfl | rfl | rfl | rfl <;> rfl) ⟨by decide, by decide⟩ dX7_init_5 (fun H hk => ?_)
  refine lv_dup hx0 hb dX7_init_8 rfl ?_
  refine k_ctor (As := []) (rest := [.ref (b + (k + (1 + 0))), .ref (b + k)]) C hk (nX10 (k + (1 + 0)) (chX7_0 hk0)) cwX10_init imX10_init rfl mlX7_9 ⟨by decide, by decide⟩ rfl hl.1 (Nat.le_of_ble_eq_true rfl) ⟨by decide, by decide⟩ dX7_init_9 rfl (fun H locs hk => ?_)
  refine k_putF C hin hk kcX7 0 (by decide) flX7_10 rfl rfl rfl rfl (Nat.le_of_ble_eq_true rfl) (fs' := [.ref (b + (k + (1 + 0))), .null, .null, .null]) rfl dX7_init_12 (fun H locs hk => ?_)
  refine lv_aload_n hx0 hb dX7_init_15 rfl (lv_at hl 0 rfl) ?_
  refine k_new (cp := 1) (fp := [.null, .null, .null, .null, .int 0]) C hk kcX1 clX7_16 inX1 iniX1 (fun j hj => by rcases (show j = 0 ∨ j = 1 ∨ j = 2 ∨ j = 3 ∨ j = 4 by omega) with rfl | rfl | rfl | rfl | rfl <;> rfl) ⟨by decide, by decide⟩ dX7_init_16 (fun H hk => ?_)
  refine lv_dup hx0 hb dX7_init_19 rfl ?_
  refine k_ctor (As := []) (rest := [.ref (b + (k + (1 + 11))), .ref (b + k)]) C hk (nX1 (k + (1 + 11)) (chX7_1 hk0)) cwX1_init imX1_init rfl mlX7_18 ⟨by decide, by decide⟩ rfl hl.1 (Nat.le_of_ble_eq_true rfl) ⟨by decide, by decide⟩ dX7_init_20 rfl (fun H locs hk => ?_)
  refine k_putF C hin hk kcX7 1 (by decide) flX7_19 rfl rfl rfl rfl (Nat.le_of_ble_eq_true rfl) (fs' := [.ref (b + (k + (1 + 0))), .ref (b + (k + (1 + 11))), .null, .null]) rfl dX7_init_23 (fun H locs hk => ?_)
  refine lv_aload_n hx0 hb dX7_init_26 rfl (lv_at hl 0 rfl) ?_
  refine k_new (cp := 5) (fp := [.null, .null, .null, .int 0]) C hk kcX5 clX7_23 inX5 iniX5 (fun j hj => by rcases (show j = 0 ∨ j = 1 ∨ j = 2 ∨ j = 3 by omega) with rfl | rfl | rfl | rfl <;> rfl) ⟨by decide, by decide⟩ dX7_init_27 (fun H hk => ?_)
  refine lv_dup hx0 hb dX7_init_30 rfl ?_
  refine k_ctor (As := []) (rest := [.ref (b + (k + (1 + 20))), .ref (b + k)]) C hk (nX5 (k + (1 + 20)) (chX7_2 hk0)) cwX5_init imX5_init rfl mlX7_25 ⟨by decide, by decide⟩ rfl hl.1 (Nat.le_of_ble_eq_true rfl) ⟨by decide, by decide⟩ dX7_init_31 rfl (fun H locs hk => ?_)
  refine k_putF C hin hk kcX7 2 (by decide) flX7_26 rfl rfl rfl rfl (Nat.le_of_ble_eq_true rfl) (fs' := [.ref (b + (k + (1 + 0))), .ref (b + (k + (1 + 11))), .ref (b + (k + (1 + 20))), .null]) rfl dX7_init_34 (fun H locs hk => ?_)
  refine lv_aload_n hx0 hb dX7_init_37 rfl (lv_at hl 0 rfl) ?_
  refine k_new (cp := 9) (fp := [.null, .int 0, .int 0]) C hk kcX9 clX7_30 inX9 iniX9 (fun j hj => by rcases (show j = 0 ∨ j = 1 ∨ j = 2 by omega) with rfl | rfl | rfl <;> rfl) ⟨by decide, by decide⟩ dX7_init_38 (fun H hk => ?_)
  refine lv_dup hx0 hb dX7_init_41 rfl ?_
  refine k_ctor (As := []) (rest := [.ref (b + (k + (1 + 27))), .ref (b + k)]) C hk (nX9 (k + (1 + 27)) (chX7_3 hk0)) cwX9_init imX9_init rfl mlX7_32 ⟨by decide, by decide⟩ rfl hl.1 (Nat.le_of_ble_eq_true rfl) ⟨by decide, by decide⟩ dX7_init_42 rfl (fun H locs hk => ?_)
  refine k_putF C hin hk kcX7 3 (by decide) flX7_33 rfl rfl rfl rfl (Nat.le_of_ble_eq_true rfl) (fs' := [.ref (b + (k + (1 + 0))), .ref (b + (k + (1 + 11))), .ref (b + (k + (1 + 20))), .ref (b + (k + (1 + 27)))]) rfl dX7_init_45 (fun H locs hk => ?_)
  exact k_ret C hk (ccX7 hk0) dX7_init_48
set_option maxRecDepth 100000 in
set_option maxHeartbeats 4000000 in
theorem nX2 {l : Launch} {E : Ev} {b : Nat} (k : Nat) (hk0 : kd k = 2) : Met l yX2_init (tw yX2_init cX2_init 1 none) { frames := 2, cells := 12, slots := 726, locals := 34 } (va_Pc [.ref (b + k)] (Pk l E b k 2 [.null, .null, .null, .null, .null, .null, .int 0])) (Qk E b k 13) 12 726 (fun q => b + k ≤ q) := by
  refine ck_of (by decide) rfl (Nat.le_of_ble_eq_true rfl) ?_
  intro p e s m below meth c C hin hk ls hl
  have hx0 := C.1
  have hb := C.2.1
  have hl : lv_has ls 1 [(0, .ref (b + k))] := hl
  refine lv_aload_n hx0 hb dX2_init_0 rfl (lv_at hl 0 rfl) ?_
  refine k_obj C mlX2_3 hl.1 ⟨Nat.le_of_ble_eq_true rfl, Nat.le_of_ble_eq_true rfl⟩ dX2_init_1 ?_
  refine lv_aload_n hx0 hb dX2_init_4 rfl (lv_at hl 0 rfl) ?_
  refine k_new (cp := 3) (fp := [.null]) C hk kcX3 clX2_9 inX3 iniX3 (fun j hj => by rcases (show j = 0 by omega) with rfl <;> rfl) ⟨by decide, by decide⟩ dX2_init_5 (fun H hk => ?_)
  refine lv_dup hx0 hb dX2_init_8 rfl ?_
  refine lv_sipush (v := (144 : Int32)) hx0 hb dX2_init_9 (by decide) ?_
  refine k_ctor (As := [.int (144 : Int32)]) (rest := [.ref (b + (k + (1 + 0))), .ref (b + k)]) C hk (nX3 (k + (1 + 0)) 144 (chX2_0 hk0) (cqX2_1 hk0) (by decide) (by decide)) cwX3_init imX3_init rfl mlX2_11 ⟨by decide, by decide⟩ rfl hl.1 (Nat.le_of_ble_eq_true rfl) ⟨by decide, by decide⟩ dX2_init_12 rfl (fun H locs hk => ?_)
  refine k_putF C hin hk kcX2 0 (by decide) flX2_14 rfl rfl rfl rfl (Nat.le_of_ble_eq_true rfl) (fs' := [.ref (b + (k + (1 + 0))), .null, .null, .null, .null, .null, .int 0]) rfl dX2_init_15 (fun H locs hk => ?_)
  refine lv_aload_n hx0 hb dX2_init_18 rfl (lv_at hl 0 rfl) ?_
  refine k_new (cp := 3) (fp := [.null]) C hk kcX3 clX2_9 inX3 iniX3 (fun j hj => by rcases (show j = 0 by omega) with rfl <;> rfl) ⟨by decide, by decide⟩ dX2_init_19 (fun H hk => ?_)
  refine lv_dup hx0 hb dX2_init_22 rfl ?_
  refine lv_sipush (v := (144 : Int32)) hx0 hb dX2_init_23 (by decide) ?_
  refine k_ctor (As := [.int (144 : Int32)]) (rest := [.ref (b + (k + (1 + 2))), .ref (b + k)]) C hk (nX3 (k + (1 + 2)) 144 (chX2_1 hk0) (cqX2_3 hk0) (by decide) (by decide)) cwX3_init imX3_init rfl mlX2_11 ⟨by decide, by decide⟩ rfl hl.1 (Nat.le_of_ble_eq_true rfl) ⟨by decide, by decide⟩ dX2_init_26 rfl (fun H locs hk => ?_)
  refine k_putF C hin hk kcX2 1 (by decide) flX2_20 rfl rfl rfl rfl (Nat.le_of_ble_eq_true rfl) (fs' := [.ref (b + (k + (1 + 0))), .ref (b + (k + (1 + 2))), .null, .null, .null, .null, .int 0]) rfl dX2_init_29 (fun H locs hk => ?_)
  refine lv_aload_n hx0 hb dX2_init_32 rfl (lv_at hl 0 rfl) ?_
  refine k_new (cp := 3) (fp := [.null]) C hk kcX3 clX2_9 inX3 iniX3 (fun j hj => by rcases (show j = 0 by omega) with rfl <;> rfl) ⟨by decide, by decide⟩ dX2_init_33 (fun H hk => ?_)
  refine lv_dup hx0 hb dX2_init_36 rfl ?_
  refine lv_sipush (v := (144 : Int32)) hx0 hb dX2_init_37 (by decide) ?_
  refine k_ctor (As := [.int (144 : Int32)]) (rest := [.ref (b + (k + (1 + 4))), .ref (b + k)]) C hk (nX3 (k + (1 + 4)) 144 (chX2_2 hk0) (cqX2_5 hk0) (by decide) (by decide)) cwX3_init imX3_init rfl mlX2_11 ⟨by decide, by decide⟩ rfl hl.1 (Nat.le_of_ble_eq_true rfl) ⟨by decide, by decide⟩ dX2_init_40 rfl (fun H locs hk => ?_)
  refine k_putF C hin hk kcX2 2 (by decide) flX2_23 rfl rfl rfl rfl (Nat.le_of_ble_eq_true rfl) (fs' := [.ref (b + (k + (1 + 0))), .ref (b + (k + (1 + 2))), .ref (b + (k + (1 + 4))), .null, .null, .null, .int 0]) rfl dX2_init_43 (fun H locs hk => ?_)
  refine lv_aload_n hx0 hb dX2_init_46 rfl (lv_at hl 0 rfl) ?_
  refine k_new (cp := 3) (fp := [.null]) C hk kcX3 clX2_9 inX3 iniX3 (fun j hj => by rcases (show j = 0 by omega) with rfl <;> rfl) ⟨by decide, by decide⟩ dX2_init_47 (fun H hk => ?_)
  refine lv_dup hx0 hb dX2_init_50 rfl ?_
  refine lv_sipush (v := (144 : Int32)) hx0 hb dX2_init_51 (by decide) ?_
  refine k_ctor (As := [.int (144 : Int32)]) (rest := [.ref (b + (k + (1 + 6))), .ref (b + k)]) C hk (nX3 (k + (1 + 6)) 144 (chX2_3 hk0) (cqX2_7 hk0) (by decide) (by decide)) cwX3_init imX3_init rfl mlX2_11 ⟨by decide, by decide⟩ rfl hl.1 (Nat.le_of_ble_eq_true rfl) ⟨by decide, by decide⟩ dX2_init_54 rfl (fun H locs hk => ?_)
  refine k_putF C hin hk kcX2 3 (by decide) flX2_26 rfl rfl rfl rfl (Nat.le_of_ble_eq_true rfl) (fs' := [.ref (b + (k + (1 + 0))), .ref (b + (k + (1 + 2))), .ref (b + (k + (1 + 4))), .ref (b + (k + (1 + 6))), .null, .null, .int 0]) rfl dX2_init_57 (fun H locs hk => ?_)
  refine lv_aload_n hx0 hb dX2_init_60 rfl (lv_at hl 0 rfl) ?_
  refine k_new (cp := 3) (fp := [.null]) C hk kcX3 clX2_9 inX3 iniX3 (fun j hj => by rcases (show j = 0 by omega) with rfl <;> rfl) ⟨by decide, by decide⟩ dX2_init_61 (fun H hk => ?_)
  refine lv_dup hx0 hb dX2_init_64 rfl ?_
  refine lv_bipush (v := (120 : Int32)) hx0 hb dX2_init_65 (by decide) ?_
  refine k_ctor (As := [.int (120 : Int32)]) (rest := [.ref (b + (k + (1 + 8))), .ref (b + k)]) C hk (nX3 (k + (1 + 8)) 120 (chX2_4 hk0) (cqX2_9 hk0) (by decide) (by decide)) cwX3_init imX3_init rfl mlX2_11 ⟨by decide, by decide⟩ rfl hl.1 (Nat.le_of_ble_eq_true rfl) ⟨by decide, by decide⟩ dX2_init_67 rfl (fun H locs hk => ?_)
  refine k_putF C hin hk kcX2 4 (by decide) flX2_29 rfl rfl rfl rfl (Nat.le_of_ble_eq_true rfl) (fs' := [.ref (b + (k + (1 + 0))), .ref (b + (k + (1 + 2))), .ref (b + (k + (1 + 4))), .ref (b + (k + (1 + 6))), .ref (b + (k + (1 + 8))), .null, .int 0]) rfl dX2_init_70 (fun H locs hk => ?_)
  refine lv_aload_n hx0 hb dX2_init_73 rfl (lv_at hl 0 rfl) ?_
  refine k_new (cp := 3) (fp := [.null]) C hk kcX3 clX2_9 inX3 iniX3 (fun j hj => by rcases (show j = 0 by omega) with rfl <;> rfl) ⟨by decide, by decide⟩ dX2_init_74 (fun H hk => ?_)
  refine lv_dup hx0 hb dX2_init_77 rfl ?_
  refine lv_bipush (v := (24 : Int32)) hx0 hb dX2_init_78 (by decide) ?_
  refine k_ctor (As := [.int (24 : Int32)]) (rest := [.ref (b + (k + (1 + 10))), .ref (b + k)]) C hk (nX3 (k + (1 + 10)) 24 (chX2_5 hk0) (cqX2_11 hk0) (by decide) (by decide)) cwX3_init imX3_init rfl mlX2_11 ⟨by decide, by decide⟩ rfl hl.1 (Nat.le_of_ble_eq_true rfl) ⟨by decide, by decide⟩ dX2_init_80 rfl (fun H locs hk => ?_)
  refine k_putF C hin hk kcX2 5 (by decide) flX2_32 rfl rfl rfl rfl (Nat.le_of_ble_eq_true rfl) (fs' := [.ref (b + (k + (1 + 0))), .ref (b + (k + (1 + 2))), .ref (b + (k + (1 + 4))), .ref (b + (k + (1 + 6))), .ref (b + (k + (1 + 8))), .ref (b + (k + (1 + 10))), .int 0]) rfl dX2_init_83 (fun H locs hk => ?_)
  refine lv_aload_n hx0 hb dX2_init_86 rfl (lv_at hl 0 rfl) ?_
  refine lv_iconst (v := (0 : Int32)) hx0 hb dX2_init_87 (by decide) ?_
  refine k_put C hk kcX2 6 (by decide) flX2_35 rfl rfl rfl (Nat.le_of_ble_eq_true rfl) (fs' := [.ref (b + (k + (1 + 0))), .ref (b + (k + (1 + 2))), .ref (b + (k + (1 + 4))), .ref (b + (k + (1 + 6))), .ref (b + (k + (1 + 8))), .ref (b + (k + (1 + 10))), .int (0 : Int32)]) rfl dX2_init_88 (fun H locs hk => ?_)
  exact k_ret C hk (by have h9 := ccX2 (E := E) (b := b) (σ := Z0) hk0; simp only [z0 hk0 (by decide)] at h9; exact h9) dX2_init_91
set_option maxRecDepth 100000 in
set_option maxHeartbeats 4000000 in
theorem nX4 {l : Launch} {E : Ev} {b : Nat} (k : Nat) (hk0 : kd k = 4) : Met l yX4_init (tw yX4_init cX4_init 1 none) { frames := 2, cells := 10, slots := 389, locals := 34 } (va_Pc [.ref (b + k)] (Pk l E b k 4 [.null, .null, .null, .null, .null, .int 0])) (Qk E b k 11) 10 389 (fun q => b + k ≤ q) := by
  refine ck_of (by decide) rfl (Nat.le_of_ble_eq_true rfl) ?_
  intro p e s m below meth c C hin hk ls hl
  have hx0 := C.1
  have hb := C.2.1
  have hl : lv_has ls 1 [(0, .ref (b + k))] := hl
  refine lv_aload_n hx0 hb dX4_init_0 rfl (lv_at hl 0 rfl) ?_
  refine k_obj C mlX4_3 hl.1 ⟨Nat.le_of_ble_eq_true rfl, Nat.le_of_ble_eq_true rfl⟩ dX4_init_1 ?_
  refine lv_aload_n hx0 hb dX4_init_4 rfl (lv_at hl 0 rfl) ?_
  refine k_new (cp := 3) (fp := [.null]) C hk kcX3 clX4_9 inX3 iniX3 (fun j hj => by rcases (show j = 0 by omega) with rfl <;> rfl) ⟨by decide, by decide⟩ dX4_init_5 (fun H hk => ?_)
  refine lv_dup hx0 hb dX4_init_8 rfl ?_
  refine lv_bipush (v := (60 : Int32)) hx0 hb dX4_init_9 (by decide) ?_
  refine k_ctor (As := [.int (60 : Int32)]) (rest := [.ref (b + (k + (1 + 0))), .ref (b + k)]) C hk (nX3 (k + (1 + 0)) 60 (chX4_0 hk0) (cqX4_1 hk0) (by decide) (by decide)) cwX3_init imX3_init rfl mlX4_11 ⟨by decide, by decide⟩ rfl hl.1 (Nat.le_of_ble_eq_true rfl) ⟨by decide, by decide⟩ dX4_init_11 rfl (fun H locs hk => ?_)
  refine k_putF C hin hk kcX4 0 (by decide) flX4_14 rfl rfl rfl rfl (Nat.le_of_ble_eq_true rfl) (fs' := [.ref (b + (k + (1 + 0))), .null, .null, .null, .null, .int 0]) rfl dX4_init_14 (fun H locs hk => ?_)
  refine lv_aload_n hx0 hb dX4_init_17 rfl (lv_at hl 0 rfl) ?_
  refine k_new (cp := 3) (fp := [.null]) C hk kcX3 clX4_9 inX3 iniX3 (fun j hj => by rcases (show j = 0 by omega) with rfl <;> rfl) ⟨by decide, by decide⟩ dX4_init_18 (fun H hk => ?_)
  refine lv_dup hx0 hb dX4_init_21 rfl ?_
  refine lv_bipush (v := (60 : Int32)) hx0 hb dX4_init_22 (by decide) ?_
  refine k_ctor (As := [.int (60 : Int32)]) (rest := [.ref (b + (k + (1 + 2))), .ref (b + k)]) C hk (nX3 (k + (1 + 2)) 60 (chX4_1 hk0) (cqX4_3 hk0) (by decide) (by decide)) cwX3_init imX3_init rfl mlX4_11 ⟨by decide, by decide⟩ rfl hl.1 (Nat.le_of_ble_eq_true rfl) ⟨by decide, by decide⟩ dX4_init_24 rfl (fun H locs hk => ?_)
  refine k_putF C hin hk kcX4 1 (by decide) flX4_20 rfl rfl rfl rfl (Nat.le_of_ble_eq_true rfl) (fs' := [.ref (b + (k + (1 + 0))), .ref (b + (k + (1 + 2))), .null, .null, .null, .int 0]) rfl dX4_init_27 (fun H locs hk => ?_)
  refine lv_aload_n hx0 hb dX4_init_30 rfl (lv_at hl 0 rfl) ?_
  refine k_new (cp := 3) (fp := [.null]) C hk kcX3 clX4_9 inX3 iniX3 (fun j hj => by rcases (show j = 0 by omega) with rfl <;> rfl) ⟨by decide, by decide⟩ dX4_init_31 (fun H hk => ?_)
  refine lv_dup hx0 hb dX4_init_34 rfl ?_
  refine lv_sipush (v := (144 : Int32)) hx0 hb dX4_init_35 (by decide) ?_
  refine k_ctor (As := [.int (144 : Int32)]) (rest := [.ref (b + (k + (1 + 4))), .ref (b + k)]) C hk (nX3 (k + (1 + 4)) 144 (chX4_2 hk0) (cqX4_5 hk0) (by decide) (by decide)) cwX3_init imX3_init rfl mlX4_11 ⟨by decide, by decide⟩ rfl hl.1 (Nat.le_of_ble_eq_true rfl) ⟨by decide, by decide⟩ dX4_init_38 rfl (fun H locs hk => ?_)
  refine k_putF C hin hk kcX4 2 (by decide) flX4_23 rfl rfl rfl rfl (Nat.le_of_ble_eq_true rfl) (fs' := [.ref (b + (k + (1 + 0))), .ref (b + (k + (1 + 2))), .ref (b + (k + (1 + 4))), .null, .null, .int 0]) rfl dX4_init_41 (fun H locs hk => ?_)
  refine lv_aload_n hx0 hb dX4_init_44 rfl (lv_at hl 0 rfl) ?_
  refine k_new (cp := 3) (fp := [.null]) C hk kcX3 clX4_9 inX3 iniX3 (fun j hj => by rcases (show j = 0 by omega) with rfl <;> rfl) ⟨by decide, by decide⟩ dX4_init_45 (fun H hk => ?_)
  refine lv_dup hx0 hb dX4_init_48 rfl ?_
  refine lv_bipush (v := (60 : Int32)) hx0 hb dX4_init_49 (by decide) ?_
  refine k_ctor (As := [.int (60 : Int32)]) (rest := [.ref (b + (k + (1 + 6))), .ref (b + k)]) C hk (nX3 (k + (1 + 6)) 60 (chX4_3 hk0) (cqX4_7 hk0) (by decide) (by decide)) cwX3_init imX3_init rfl mlX4_11 ⟨by decide, by decide⟩ rfl hl.1 (Nat.le_of_ble_eq_true rfl) ⟨by decide, by decide⟩ dX4_init_51 rfl (fun H locs hk => ?_)
  refine k_putF C hin hk kcX4 3 (by decide) flX4_26 rfl rfl rfl rfl (Nat.le_of_ble_eq_true rfl) (fs' := [.ref (b + (k + (1 + 0))), .ref (b + (k + (1 + 2))), .ref (b + (k + (1 + 4))), .ref (b + (k + (1 + 6))), .null, .int 0]) rfl dX4_init_54 (fun H locs hk => ?_)
  refine lv_aload_n hx0 hb dX4_init_57 rfl (lv_at hl 0 rfl) ?_
  refine k_new (cp := 3) (fp := [.null]) C hk kcX3 clX4_9 inX3 iniX3 (fun j hj => by rcases (show j = 0 by omega) with rfl <;> rfl) ⟨by decide, by decide⟩ dX4_init_58 (fun H hk => ?_)
  refine lv_dup hx0 hb dX4_init_61 rfl ?_
  refine lv_bipush (v := (60 : Int32)) hx0 hb dX4_init_62 (by decide) ?_
  refine k_ctor (As := [.int (60 : Int32)]) (rest := [.ref (b + (k + (1 + 8))), .ref (b + k)]) C hk (nX3 (k + (1 + 8)) 60 (chX4_4 hk0) (cqX4_9 hk0) (by decide) (by decide)) cwX3_init imX3_init rfl mlX4_11 ⟨by decide, by decide⟩ rfl hl.1 (Nat.le_of_ble_eq_true rfl) ⟨by decide, by decide⟩ dX4_init_64 rfl (fun H locs hk => ?_)
  refine k_putF C hin hk kcX4 4 (by decide) flX4_29 rfl rfl rfl rfl (Nat.le_of_ble_eq_true rfl) (fs' := [.ref (b + (k + (1 + 0))), .ref (b + (k + (1 + 2))), .ref (b + (k + (1 + 4))), .ref (b + (k + (1 + 6))), .ref (b + (k + (1 + 8))), .int 0]) rfl dX4_init_67 (fun H locs hk => ?_)
  refine lv_aload_n hx0 hb dX4_init_70 rfl (lv_at hl 0 rfl) ?_
  refine lv_iconst (v := (0 : Int32)) hx0 hb dX4_init_71 (by decide) ?_
  refine k_put C hk kcX4 5 (by decide) flX4_32 rfl rfl rfl (Nat.le_of_ble_eq_true rfl) (fs' := [.ref (b + (k + (1 + 0))), .ref (b + (k + (1 + 2))), .ref (b + (k + (1 + 4))), .ref (b + (k + (1 + 6))), .ref (b + (k + (1 + 8))), .int (0 : Int32)]) rfl dX4_init_72 (fun H locs hk => ?_)
  exact k_ret C hk (by have h9 := ccX4 (E := E) (b := b) (σ := Z0) hk0; simp only [z0 hk0 (by decide)] at h9; exact h9) dX4_init_75
set_option maxRecDepth 100000 in
set_option maxHeartbeats 4000000 in
theorem nX6 {l : Launch} {E : Ev} {b : Nat} (k : Nat) (hk0 : kd k = 6) : Met l yX6_init (tw yX6_init cX6_init 1 none) { frames := 4, cells := 33, slots := 981, locals := 74 } (va_Pc [.ref (b + k)] (Pk l E b k 6 [.null, .null, .int 0, .int 0, .int 0, .int 0])) (Qk E b k 34) 33 981 (fun q => b + k ≤ q) := by
  refine ck_of (by decide) rfl (Nat.le_of_ble_eq_true rfl) ?_
  intro p e s m below meth c C hin hk ls hl
  have hx0 := C.1
  have hb := C.2.1
  have hl : lv_has ls 1 [(0, .ref (b + k))] := hl
  refine lv_aload_n hx0 hb dX6_init_0 rfl (lv_at hl 0 rfl) ?_
  refine k_obj C mlX6_3 hl.1 ⟨Nat.le_of_ble_eq_true rfl, Nat.le_of_ble_eq_true rfl⟩ dX6_init_1 ?_
  refine lv_aload_n hx0 hb dX6_init_4 rfl (lv_at hl 0 rfl) ?_
  refine k_new (cp := 7) (fp := [.null, .null, .null, .null]) C hk kcX7 clX6_9 inX7 iniX7 (fun j hj => by rcases (show j = 0 ∨ j = 1 ∨ j = 2 ∨ j = 3 by omega) with rfl | rfl | rfl | rfl <;> rfl) ⟨by decide, by decide⟩ dX6_init_5 (fun H hk => ?_)
  refine lv_dup hx0 hb dX6_init_8 rfl ?_
  refine k_ctor (As := []) (rest := [.ref (b + (k + (1 + 0))), .ref (b + k)]) C hk (nX7 (k + (1 + 0)) (chX6_0 hk0)) cwX7_init imX7_init rfl mlX6_11 ⟨by decide, by decide⟩ rfl hl.1 (Nat.le_of_ble_eq_true rfl) ⟨by decide, by decide⟩ dX6_init_9 rfl (fun H locs hk => ?_)
  refine k_putF C hin hk kcX6 0 (by decide) flX6_12 rfl rfl rfl rfl (Nat.le_of_ble_eq_true rfl) (fs' := [.ref (b + (k + (1 + 0))), .null, .int 0, .int 0, .int 0, .int 0]) rfl dX6_init_12 (fun H locs hk => ?_)
  refine lv_aload_n hx0 hb dX6_init_15 rfl (lv_at hl 0 rfl) ?_
  refine k_new (cp := 8) (fp := [.null, .int 0]) C hk kcX8 clX6_18 inX8 iniX8 (fun j hj => by rcases (show j = 0 ∨ j = 1 by omega) with rfl | rfl <;> rfl) ⟨by decide, by decide⟩ dX6_init_16 (fun H hk => ?_)
  refine lv_dup hx0 hb dX6_init_19 rfl ?_
  refine lv_sipush (v := (600 : Int32)) hx0 hb dX6_init_20 (by decide) ?_
  refine k_ctor (As := [.int (600 : Int32)]) (rest := [.ref (b + (k + (1 + 31))), .ref (b + k)]) C hk (nX8 (k + (1 + 31)) 600 (chX6_1 hk0) (cqX6_32 hk0) (by decide) (by decide)) cwX8_init imX8_init rfl mlX6_20 ⟨by decide, by decide⟩ rfl hl.1 (Nat.le_of_ble_eq_true rfl) ⟨by decide, by decide⟩ dX6_init_23 rfl (fun H locs hk => ?_)
  refine k_putF C hin hk kcX6 1 (by decide) flX6_23 rfl rfl rfl rfl (Nat.le_of_ble_eq_true rfl) (fs' := [.ref (b + (k + (1 + 0))), .ref (b + (k + (1 + 31))), .int 0, .int 0, .int 0, .int 0]) rfl dX6_init_26 (fun H locs hk => ?_)
  refine lv_aload_n hx0 hb dX6_init_29 rfl (lv_at hl 0 rfl) ?_
  refine lv_iconst (v := (0 : Int32)) hx0 hb dX6_init_30 (by decide) ?_
  refine k_put C hk kcX6 2 (by decide) flX6_27 rfl rfl rfl (Nat.le_of_ble_eq_true rfl) (fs' := [.ref (b + (k + (1 + 0))), .ref (b + (k + (1 + 31))), .int (0 : Int32), .int 0, .int 0, .int 0]) rfl dX6_init_31 (fun H locs hk => ?_)
  refine lv_aload_n hx0 hb dX6_init_34 rfl (lv_at hl 0 rfl) ?_
  refine lv_iconst (v := (0 : Int32)) hx0 hb dX6_init_35 (by decide) ?_
  refine k_put C hk kcX6 3 (by decide) flX6_31 rfl rfl rfl (Nat.le_of_ble_eq_true rfl) (fs' := [.ref (b + (k + (1 + 0))), .ref (b + (k + (1 + 31))), .int (0 : Int32), .int (0 : Int32), .int 0, .int 0]) rfl dX6_init_36 (fun H locs hk => ?_)
  refine lv_aload_n hx0 hb dX6_init_39 rfl (lv_at hl 0 rfl) ?_
  refine lv_iconst (v := (0 : Int32)) hx0 hb dX6_init_40 (by decide) ?_
  refine k_put C hk kcX6 4 (by decide) flX6_34 rfl rfl rfl (Nat.le_of_ble_eq_true rfl) (fs' := [.ref (b + (k + (1 + 0))), .ref (b + (k + (1 + 31))), .int (0 : Int32), .int (0 : Int32), .int (0 : Int32), .int 0]) rfl dX6_init_41 (fun H locs hk => ?_)
  refine lv_aload_n hx0 hb dX6_init_44 rfl (lv_at hl 0 rfl) ?_
  refine lv_iconst (v := (-1 : Int32)) hx0 hb dX6_init_45 (by decide) ?_
  refine k_put C hk kcX6 5 (by decide) flX6_37 rfl rfl rfl (Nat.le_of_ble_eq_true rfl) (fs' := [.ref (b + (k + (1 + 0))), .ref (b + (k + (1 + 31))), .int (0 : Int32), .int (0 : Int32), .int (0 : Int32), .int (-1 : Int32)]) rfl dX6_init_46 (fun H locs hk => ?_)
  exact k_ret C hk (by obtain rfl := kd6 hk0; exact ccX6 (E := E) (b := b) (σ := Z0) hk0) dX6_init_49
