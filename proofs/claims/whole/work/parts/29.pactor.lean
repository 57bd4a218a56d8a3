/-! PageArchive() -/
theorem kd11 {k : Nat} (h : kd k = 11) : k = 0 := of_decide_eq_true (kdall (n := 11) (by decide) (fun k => decide (k = 0)) (by decide +kernel) k h)
section RowsG
variable {p : Program} {l : Launch} {e : Env} {R : Room} {s : State} {m : MethodId} {args : Array Value} {below : List Frame} {meth : Method} {c : Code} {H : Heap} {locs : List Loc} {cells slots mc ms : Nat} {Q : State → Prop}
variable {E : Ev} {L : Lay} {σ : Mem} {cc : ByteArray} {nL : Nat} {own : String} {rt : Option FieldType} {pc : Nat} {ls : Array Slot} {rest : List Value} {A0 : Nat → Prop}
/-- a call of a method of an object, from where more than its world is held -/
theorem g_callV (C : Cx p l s m args meth c E cc nL own rt) (hW : Wd E L σ H) (hLo : ∀ z ∈ locs, A0 z.base) (hA : ∀ q, La L q → A0 q) (hO2 : Od E H) {k : Nat} (hk : k < L.1) {ci : Nat} {fs : List Value} (hc : L.2.2 σ k = .inr (ci, fs)) {Cn : String} {T : u_T} {N : Nat} {ty : Nat → FieldType} (kc : KC ci Cn T N ty)
    {y : MethodName} {cb : ByteArray} {ml n : Nat} {ry : Option FieldType} {fr lo : Nat} {As : List Value} {rv : Option Value} {σ' : Mem} (hM : Met l y (tw y cb ml ry) { frames := fr, cells := 0, slots := 0, locals := lo } (va_Pc (.ref (L.2.1 + k) :: As) (Pr l E L σ)) (Qz E L rv σ') 0 0 (La L)) (cw : CW y cb ml ry n) (cv : CV y) (hCn : y.cls = Cn) {index : Nat} (hlk : Cond.methodLink own index y ∈ tb) (hR : fr + 1 ≤ R.frames ∧ 8 + (ml + 11) + lo ≤ R.locals)
    (hn : As.length = n) (hls : ls.size = nL) (hsum : (rest.map fun v => v.category).sum ≤ 8) (hf : cells ≤ R.cells ∧ slots ≤ R.slots) (hdg : decode cc pc = .ok (.invokevirtual index, 3)) {st : List Value} (hst : st = As.reverse ++ .ref (L.2.1 + k) :: rest)
    (kk : ∀ (H1 : Heap) (locs1 : List Loc), Wd E L σ' H1 → H.size ≤ H1.size → (∀ q, q < H.size → ¬ La L q → H1[q]? = H[q]?) → (∀ z ∈ locs1, A0 z.base) → W p l e R s m args below meth c H1 locs1 cells slots Q (F0 m (pc + 3) ls (rv.toList ++ rest))) : W p l e R s m args below meth c H locs cells slots Q (F0 m pc ls st) := by
  obtain ⟨hx, hb, hml, hown, hts, hlocks, hr, ⟨hK, hX⟩, hO⟩ := C
  obtain ⟨w1, w2, w3, w4⟩ := cw
  obtain ⟨k1, k2, k3, k4⟩ := kc
  subst hCn
  have cb0 : CallB R s args own index y cb ml ry (tw y cb ml ry) { frames := fr, cells := 0, slots := 0, locals := lo } 0 0 n := callB_of n hts (tw_good w1) rfl rfl rfl (hts _ w2) (hts _ hlk) ⟨w3.1, w3.2, w4⟩ hR
  have hrun := va_runV (p := p) (e := e) (below := below) (meth := meth) (H := H) (locs := locs) (cells := cells) (slots := slots) (g := F0 m pc ls st) (rest := rest) ⟨hx, hb, hml, hown, hts⟩ hM ⟨cb0, hts _ cv.1, hts _ cv.2⟩ ⟨Pr.blind _, va_recv hK hW.1 (ci := ci) (q0 := k) k1 (by rw [wl_at hk, hc]), fun U hU hWm => ⟨rfl, Kn.warm hWm ⟨hK, hX⟩, by rw [hU]; exact hW, by rw [hU]; exact hO2⟩⟩ rfl hn hls hst (lv_room hsum) hdg hf
  intro Tt hT X
  obtain ⟨v, st₀, t, T', L', h0, X', hL, e1, e2, ⟨hv, hw, hz, hk2⟩, stp⟩ := hrun Tt hT X
  cases hv
  rw [h0] at hz hk2
  obtain ⟨t2, a1, b1⟩ := kk T'.heap (locs ++ L') (by rw [e1]; exact hw) (by rw [e1]; exact hz) (fun q h1 h2 => by rw [e1]; exact hk2 q h1 h2) (fun q hq => by
      rcases List.mem_append.mp hq with h | h
      · exact hLo q h
      · exact hA _ (hL q h)) T' rfl X'
  exact ⟨t2, stp t2 a1, b1⟩
end RowsG
set_option maxRecDepth 100000 in
set_option maxHeartbeats 8000000 in
theorem nX11 {l : Launch} {E : Ev} {b : Nat} (k : Nat) (hk0 : kd k = 11) (σ1 : Mem) (hσ : fX10_addQuire (0 + 42) 2 Z0 = some σ1) : Met l yX11_init (tw yX11_init cX11_init 1 none) { frames := 5, cells := 383, slots := 6409, locals := 95 } (va_Pc [.ref (b + k)] (Pk l E b k 11 [.null, .null, .null, .null, .null, .null, .null, .null, .null, .null, .null, .null, .null, .int 0, .null, .null])) (fun _ st o t => o = .returned none ∧ b + 384 ≤ t.heap.size ∧ Wd E (LC E b) σ1 t.heap ∧ ∀ q, q < b → t.heap[q]? = st.heap[q]?) 383 6409 (fun q => b + k ≤ q) := by
  refine ck_of (by decide) rfl (Nat.le_of_ble_eq_true rfl) ?_
  intro p e s m below meth c C hin hk ls hl
  have hx0 := C.1
  have hb := C.2.1
  have hl : lv_has ls 1 [(0, .ref (b + k))] := hl
  refine lv_aload_n hx0 hb dX11_init_0 rfl (lv_at hl 0 rfl) ?_
  refine k_obj C mlX11_3 hl.1 ⟨Nat.le_of_ble_eq_true rfl, Nat.le_of_ble_eq_true rfl⟩ dX11_init_1 ?_
  refine lv_aload_n hx0 hb dX11_init_4 rfl (lv_at hl 0 rfl) ?_
  refine k_new (cp := 6) (fp := [.null, .null, .int 0, .int 0, .int 0, .int 0]) C hk kcX6 clX11_9 inX6 iniX6 (fun j hj => by rcases (show j = 0 ∨ j = 1 ∨ j = 2 ∨ j = 3 ∨ j = 4 ∨ j = 5 by omega) with rfl | rfl | rfl | rfl | rfl | rfl <;> rfl) ⟨by decide, by decide⟩ dX11_init_5 (fun H hk => ?_)
  refine lv_dup hx0 hb dX11_init_8 rfl ?_
  refine k_ctor (As := []) (rest := [.ref (b + (k + (1 + 0))), .ref (b + k)]) C hk (nX6 (k + (1 + 0)) (chX11_0 hk0)) cwX6_init imX6_init rfl mlX11_11 ⟨by decide, by decide⟩ rfl hl.1 (Nat.le_of_ble_eq_true rfl) ⟨by decide, by decide⟩ dX11_init_9 rfl (fun H locs hk => ?_)
  refine k_putF C hin hk kcX11 0 (by decide) flX11_12 rfl rfl rfl rfl (Nat.le_of_ble_eq_true rfl) (fs' := [.ref (b + (k + 1)), .null, .null, .null, .null, .null, .null, .null, .null, .null, .null, .null, .null, .int 0, .null, .null]) rfl dX11_init_12 (fun H locs hk => ?_)
  refine lv_aload_n hx0 hb dX11_init_15 rfl (lv_at hl 0 rfl) ?_
  refine lv_aload_n hx0 hb dX11_init_16 rfl (lv_at hl 0 rfl) ?_
  refine k_get C hk.2.1 kcX11 0 (by decide) flX11_12 (v := .ref (b + (k + 1))) rfl dX11_init_17 ?_
  have hp20 : va_at E.1 vwCl (b + (k + 1), cellC E b Z0 (k + 1)) H := hk.2.2.1 0 (by decide)
  rw [show cellC E b Z0 (k + 1) = _ from ccX6 (E := E) (b := b) (σ := Z0) (chX11_0 hk0)] at hp20
  refine k_get C hp20 kcX6 1 (by decide) flX11_16 (v := .ref (b + (k + 33))) rfl dX11_init_20 ?_
  refine k_putF C hin hk kcX11 1 (by decide) flX11_20 rfl rfl rfl rfl (Nat.le_of_ble_eq_true rfl) (fs' := [.ref (b + (k + 1)), .ref (b + (k + 33)), .null, .null, .null, .null, .null, .null, .null, .null, .null, .null, .null, .int 0, .null, .null]) rfl dX11_init_23 (fun H locs hk => ?_)
  refine lv_aload_n hx0 hb dX11_init_26 rfl (lv_at hl 0 rfl) ?_
  refine k_new (cp := 8) (fp := [.null, .int 0]) C hk kcX8 clX11_23 inX8 iniX8 (fun j hj => by rcases (show j = 0 ∨ j = 1 by omega) with rfl | rfl <;> rfl) ⟨by decide, by decide⟩ dX11_init_27 (fun H hk => ?_)
  refine lv_dup hx0 hb dX11_init_30 rfl ?_
  refine lv_sipush (v := (236 : Int32)) hx0 hb dX11_init_31 (by decide) ?_
  refine k_ctor (As := [.int (236 : Int32)]) (rest := [.ref (b + (k + (1 + 34))), .ref (b + k)]) C hk (nX8 (k + (1 + 34)) 236 (chX11_2 hk0) (cqX11_35 hk0) (by decide) (by decide)) cwX8_init imX8_init rfl mlX11_25 ⟨by decide, by decide⟩ rfl hl.1 (Nat.le_of_ble_eq_true rfl) ⟨by decide, by decide⟩ dX11_init_34 rfl (fun H locs hk => ?_)
  refine k_putF C hin hk kcX11 2 (by decide) flX11_28 rfl rfl rfl rfl (Nat.le_of_ble_eq_true rfl) (fs' := [.ref (b + (k + 1)), .ref (b + (k + 33)), .ref (b + (k + 35)), .null, .null, .null, .null, .null, .null, .null, .null, .null, .null, .int 0, .null, .null]) rfl dX11_init_37 (fun H locs hk => ?_)
  refine lv_aload_n hx0 hb dX11_init_40 rfl (lv_at hl 0 rfl) ?_
  refine k_new (cp := 8) (fp := [.null, .int 0]) C hk kcX8 clX11_23 inX8 iniX8 (fun j hj => by rcases (show j = 0 ∨ j = 1 by omega) with rfl | rfl <;> rfl) ⟨by decide, by decide⟩ dX11_init_41 (fun H hk => ?_)
  refine lv_dup hx0 hb dX11_init_44 rfl ?_
  refine lv_bipush (v := (32 : Int32)) hx0 hb dX11_init_45 (by decide) ?_
  refine k_ctor (As := [.int (32 : Int32)]) (rest := [.ref (b + (k + (1 + 36))), .ref (b + k)]) C hk (nX8 (k + (1 + 36)) 32 (chX11_3 hk0) (cqX11_37 hk0) (by decide) (by decide)) cwX8_init imX8_init rfl mlX11_25 ⟨by decide, by decide⟩ rfl hl.1 (Nat.le_of_ble_eq_true rfl) ⟨by decide, by decide⟩ dX11_init_47 rfl (fun H locs hk => ?_)
  refine k_putF C hin hk kcX11 3 (by decide) flX11_31 rfl rfl rfl rfl (Nat.le_of_ble_eq_true rfl) (fs' := [.ref (b + (k + 1)), .ref (b + (k + 33)), .ref (b + (k + 35)), .ref (b + (k + 37)), .null, .null, .null, .null, .null, .null, .null, .null, .null, .int 0, .null, .null]) rfl dX11_init_50 (fun H locs hk => ?_)
  refine lv_aload_n hx0 hb dX11_init_53 rfl (lv_at hl 0 rfl) ?_
  refine k_new (cp := 8) (fp := [.null, .int 0]) C hk kcX8 clX11_23 inX8 iniX8 (fun j hj => by rcases (show j = 0 ∨ j = 1 by omega) with rfl | rfl <;> rfl) ⟨by decide, by decide⟩ dX11_init_54 (fun H hk => ?_)
  refine lv_dup hx0 hb dX11_init_57 rfl ?_
  refine lv_bipush (v := (32 : Int32)) hx0 hb dX11_init_58 (by decide) ?_
  refine k_ctor (As := [.int (32 : Int32)]) (rest := [.ref (b + (k + (1 + 38))), .ref (b + k)]) C hk (nX8 (k + (1 + 38)) 32 (chX11_4 hk0) (cqX11_39 hk0) (by decide) (by decide)) cwX8_init imX8_init rfl mlX11_25 ⟨by decide, by decide⟩ rfl hl.1 (Nat.le_of_ble_eq_true rfl) ⟨by decide, by decide⟩ dX11_init_60 rfl (fun H locs hk => ?_)
  refine k_putF C hin hk kcX11 4 (by decide) flX11_34 rfl rfl rfl rfl (Nat.le_of_ble_eq_true rfl) (fs' := [.ref (b + (k + 1)), .ref (b + (k + 33)), .ref (b + (k + 35)), .ref (b + (k + 37)), .ref (b + (k + 39)), .null, .null, .null, .null, .null, .null, .null, .null, .int 0, .null, .null]) rfl dX11_init_63 (fun H locs hk => ?_)
  refine lv_aload_n hx0 hb dX11_init_66 rfl (lv_at hl 0 rfl) ?_
  refine k_new (cp := 7) (fp := [.null, .null, .null, .null]) C hk kcX7 clX11_37 inX7 iniX7 (fun j hj => by rcases (show j = 0 ∨ j = 1 ∨ j = 2 ∨ j = 3 by omega) with rfl | rfl | rfl | rfl <;> rfl) ⟨by decide, by decide⟩ dX11_init_67 (fun H hk => ?_)
  refine lv_dup hx0 hb dX11_init_70 rfl ?_
  refine k_ctor (As := []) (rest := [.ref (b + (k + (1 + 40))), .ref (b + k)]) C hk (nX7 (k + (1 + 40)) (chX11_5 hk0)) cwX7_init imX7_init rfl mlX11_39 ⟨by decide, by decide⟩ rfl hl.1 (Nat.le_of_ble_eq_true rfl) ⟨by decide, by decide⟩ dX11_init_71 rfl (fun H locs hk => ?_)
  refine k_putF C hin hk kcX11 5 (by decide) flX11_40 rfl rfl rfl rfl (Nat.le_of_ble_eq_true rfl) (fs' := [.ref (b + (k + 1)), .ref (b + (k + 33)), .ref (b + (k + 35)), .ref (b + (k + 37)), .ref (b + (k + 39)), .ref (b + (k + 41)), .null, .null, .null, .null, .null, .null, .null, .int 0, .null, .null]) rfl dX11_init_74 (fun H locs hk => ?_)
  refine lv_aload_n hx0 hb dX11_init_77 rfl (lv_at hl 0 rfl) ?_
  refine lv_aload_n hx0 hb dX11_init_78 rfl (lv_at hl 0 rfl) ?_
  refine k_get C hk.2.1 kcX11 5 (by decide) flX11_40 (v := .ref (b + (k + 41))) rfl dX11_init_79 ?_
  have hp82 : va_at E.1 vwCl (b + (k + 41), cellC E b Z0 (k + 41)) H := hk.2.2.1 40 (by decide)
  rw [show cellC E b Z0 (k + 41) = _ from ccX7 (E := E) (b := b) (σ := Z0) (chX11_5 hk0)] at hp82
  refine k_get C hp82 kcX7 0 (by decide) flX11_44 (v := .ref (b + (k + 42))) rfl dX11_init_82 ?_
  refine k_putF C hin hk kcX11 6 (by decide) flX11_48 rfl rfl rfl rfl (Nat.le_of_ble_eq_true rfl) (fs' := [.ref (b + (k + 1)), .ref (b + (k + 33)), .ref (b + (k + 35)), .ref (b + (k + 37)), .ref (b + (k + 39)), .ref (b + (k + 41)), .ref (b + (k + 42)), .null, .null, .null, .null, .null, .null, .int 0, .null, .null]) rfl dX11_init_85 (fun H locs hk => ?_)
  refine lv_aload_n hx0 hb dX11_init_88 rfl (lv_at hl 0 rfl) ?_
  refine lv_aload_n hx0 hb dX11_init_89 rfl (lv_at hl 0 rfl) ?_
  refine k_get C hk.2.1 kcX11 5 (by decide) flX11_40 (v := .ref (b + (k + 41))) rfl dX11_init_90 ?_
  have hp93 : va_at E.1 vwCl (b + (k + 41), cellC E b Z0 (k + 41)) H := hk.2.2.1 40 (by decide)
  rw [show cellC E b Z0 (k + 41) = _ from ccX7 (E := E) (b := b) (σ := Z0) (chX11_5 hk0)] at hp93
  refine k_get C hp93 kcX7 1 (by decide) flX11_49 (v := .ref (b + (k + 53))) rfl dX11_init_93 ?_
  refine k_putF C hin hk kcX11 7 (by decide) flX11_53 rfl rfl rfl rfl (Nat.le_of_ble_eq_true rfl) (fs' := [.ref (b + (k + 1)), .ref (b + (k + 33)), .ref (b + (k + 35)), .ref (b + (k + 37)), .ref (b + (k + 39)), .ref (b + (k + 41)), .ref (b + (k + 42)), .ref (b + (k + 53)), .null, .null, .null, .null, .null, .int 0, .null, .null]) rfl dX11_init_96 (fun H locs hk => ?_)
  refine lv_aload_n hx0 hb dX11_init_99 rfl (lv_at hl 0 rfl) ?_
  refine lv_aload_n hx0 hb dX11_init_100 rfl (lv_at hl 0 rfl) ?_
  refine k_get C hk.2.1 kcX11 5 (by decide) flX11_40 (v := .ref (b + (k + 41))) rfl dX11_init_101 ?_
  have hp104 : va_at E.1 vwCl (b + (k + 41), cellC E b Z0 (k + 41)) H := hk.2.2.1 40 (by decide)
  rw [show cellC E b Z0 (k + 41) = _ from ccX7 (E := E) (b := b) (σ := Z0) (chX11_5 hk0)] at hp104
  refine k_get C hp104 kcX7 2 (by decide) flX11_54 (v := .ref (b + (k + 62))) rfl dX11_init_104 ?_
  refine k_putF C hin hk kcX11 8 (by decide) flX11_58 rfl rfl rfl rfl (Nat.le_of_ble_eq_true rfl) (fs' := [.ref (b + (k + 1)), .ref (b + (k + 33)), .ref (b + (k + 35)), .ref (b + (k + 37)), .ref (b + (k + 39)), .ref (b + (k + 41)), .ref (b + (k + 42)), .ref (b + (k + 53)), .ref (b + (k + 62)), .null, .null, .null, .null, .int 0, .null, .null]) rfl dX11_init_107 (fun H locs hk => ?_)
  refine lv_aload_n hx0 hb dX11_init_110 rfl (lv_at hl 0 rfl) ?_
  refine lv_aload_n hx0 hb dX11_init_111 rfl (lv_at hl 0 rfl) ?_
  refine k_get C hk.2.1 kcX11 5 (by decide) flX11_40 (v := .ref (b + (k + 41))) rfl dX11_init_112 ?_
  have hp115 : va_at E.1 vwCl (b + (k + 41), cellC E b Z0 (k + 41)) H := hk.2.2.1 40 (by decide)
  rw [show cellC E b Z0 (k + 41) = _ from ccX7 (E := E) (b := b) (σ := Z0) (chX11_5 hk0)] at hp115
  refine k_get C hp115 kcX7 3 (by decide) flX11_59 (v := .ref (b + (k + 69))) rfl dX11_init_115 ?_
  refine k_putF C hin hk kcX11 9 (by decide) flX11_63 rfl rfl rfl rfl (Nat.le_of_ble_eq_true rfl) (fs' := [.ref (b + (k + 1)), .ref (b + (k + 33)), .ref (b + (k + 35)), .ref (b + (k + 37)), .ref (b + (k + 39)), .ref (b + (k + 41)), .ref (b + (k + 42)), .ref (b + (k + 53)), .ref (b + (k + 62)), .ref (b + (k + 69)), .null, .null, .null, .int 0, .null, .null]) rfl dX11_init_118 (fun H locs hk => ?_)
  refine lv_aload_n hx0 hb dX11_init_121 rfl (lv_at hl 0 rfl) ?_
  refine k_new (cp := 5) (fp := [.null, .null, .null, .int 0]) C hk kcX5 clX11_64 inX5 iniX5 (fun j hj => by rcases (show j = 0 ∨ j = 1 ∨ j = 2 ∨ j = 3 by omega) with rfl | rfl | rfl | rfl <;> rfl) ⟨by decide, by decide⟩ dX11_init_122 (fun H hk => ?_)
  refine lv_dup hx0 hb dX11_init_125 rfl ?_
  refine k_ctor (As := []) (rest := [.ref (b + (k + (1 + 71))), .ref (b + k)]) C hk (nX5 (k + (1 + 71)) (chX11_10 hk0)) cwX5_init imX5_init rfl mlX11_66 ⟨by decide, by decide⟩ rfl hl.1 (Nat.le_of_ble_eq_true rfl) ⟨by decide, by decide⟩ dX11_init_126 rfl (fun H locs hk => ?_)
  refine k_putF C hin hk kcX11 10 (by decide) flX11_67 rfl rfl rfl rfl (Nat.le_of_ble_eq_true rfl) (fs' := [.ref (b + (k + 1)), .ref (b + (k + 33)), .ref (b + (k + 35)), .ref (b + (k + 37)), .ref (b + (k + 39)), .ref (b + (k + 41)), .ref (b + (k + 42)), .ref (b + (k + 53)), .ref (b + (k + 62)), .ref (b + (k + 69)), .ref (b + (k + 72)), .null, .null, .int 0, .null, .null]) rfl dX11_init_129 (fun H locs hk => ?_)
  refine lv_aload_n hx0 hb dX11_init_132 rfl (lv_at hl 0 rfl) ?_
  refine k_new (cp := 0) (fp := [.null, .int 0, .int 0]) C hk kcX0 clX11_70 inX0 iniX0 (fun j hj => by rcases (show j = 0 ∨ j = 1 ∨ j = 2 by omega) with rfl | rfl | rfl <;> rfl) ⟨by decide, by decide⟩ dX11_init_133 (fun H hk => ?_)
  refine lv_dup hx0 hb dX11_init_136 rfl ?_
  refine k_ctor (As := []) (rest := [.ref (b + (k + (1 + 78))), .ref (b + k)]) C hk (nX0 (k + (1 + 78)) (chX11_11 hk0)) cwX0_init imX0_init rfl mlX11_72 ⟨by decide, by decide⟩ rfl hl.1 (Nat.le_of_ble_eq_true rfl) ⟨by decide, by decide⟩ dX11_init_137 rfl (fun H locs hk => ?_)
  refine k_putF C hin hk kcX11 11 (by decide) flX11_73 rfl rfl rfl rfl (Nat.le_of_ble_eq_true rfl) (fs' := [.ref (b + (k + 1)), .ref (b + (k + 33)), .ref (b + (k + 35)), .ref (b + (k + 37)), .ref (b + (k + 39)), .ref (b + (k + 41)), .ref (b + (k + 42)), .ref (b + (k + 53)), .ref (b + (k + 62)), .ref (b + (k + 69)), .ref (b + (k + 72)), .ref (b + (k + 79)), .null, .int 0, .null, .null]) rfl dX11_init_140 (fun H locs hk => ?_)
  refine lv_aload_n hx0 hb dX11_init_143 rfl (lv_at hl 0 rfl) ?_
  refine k_new (cp := 7) (fp := [.null, .null, .null, .null]) C hk kcX7 clX11_37 inX7 iniX7 (fun j hj => by rcases (show j = 0 ∨ j = 1 ∨ j = 2 ∨ j = 3 by omega) with rfl | rfl | rfl | rfl <;> rfl) ⟨by decide, by decide⟩ dX11_init_144 (fun H hk => ?_)
  refine lv_dup hx0 hb dX11_init_147 rfl ?_
  refine k_ctor (As := []) (rest := [.ref (b + (k + (1 + 328))), .ref (b + k)]) C hk (nX7 (k + (1 + 328)) (chX11_12 hk0)) cwX7_init imX7_init rfl mlX11_39 ⟨by decide, by decide⟩ rfl hl.1 (Nat.le_of_ble_eq_true rfl) ⟨by decide, by decide⟩ dX11_init_148 rfl (fun H locs hk => ?_)
  refine k_putF C hin hk kcX11 12 (by decide) flX11_77 rfl rfl rfl rfl (Nat.le_of_ble_eq_true rfl) (fs' := [.ref (b + (k + 1)), .ref (b + (k + 33)), .ref (b + (k + 35)), .ref (b + (k + 37)), .ref (b + (k + 39)), .ref (b + (k + 41)), .ref (b + (k + 42)), .ref (b + (k + 53)), .ref (b + (k + 62)), .ref (b + (k + 69)), .ref (b + (k + 72)), .ref (b + (k + 79)), .ref (b + (k + 329)), .int 0, .null, .null]) rfl dX11_init_151 (fun H locs hk => ?_)
  refine lv_aload_n hx0 hb dX11_init_154 rfl (lv_at hl 0 rfl) ?_
  refine lv_iconst (v := (0 : Int32)) hx0 hb dX11_init_155 (by decide) ?_
  refine k_put C hk kcX11 13 (by decide) flX11_80 rfl (by decide +kernel) (by decide +kernel) (Nat.le_of_ble_eq_true rfl) (fs' := [.ref (b + (k + 1)), .ref (b + (k + 33)), .ref (b + (k + 35)), .ref (b + (k + 37)), .ref (b + (k + 39)), .ref (b + (k + 41)), .ref (b + (k + 42)), .ref (b + (k + 53)), .ref (b + (k + 62)), .ref (b + (k + 69)), .ref (b + (k + 72)), .ref (b + (k + 79)), .ref (b + (k + 329)), .int (0 : Int32), .null, .null]) rfl dX11_init_156 (fun H locs hk => ?_)
  refine lv_aload_n hx0 hb dX11_init_159 rfl (lv_at hl 0 rfl) ?_
  refine k_new (cp := 2) (fp := [.null, .null, .null, .null, .null, .null, .int 0]) C hk kcX2 clX11_84 inX2 iniX2 (fun j hj => by rcases (show j = 0 ∨ j = 1 ∨ j = 2 ∨ j = 3 ∨ j = 4 ∨ j = 5 ∨ j = 6 by omega) with rfl | rfl | rfl | rfl | rfl | rfl | rfl <;> rfl) ⟨by decide, by decide⟩ dX11_init_160 (fun H hk => ?_)
  refine lv_dup hx0 hb dX11_init_163 rfl ?_
  refine k_ctor (As := []) (rest := [.ref (b + (k + (1 + 359))), .ref (b + k)]) C hk (nX2 (k + (1 + 359)) (chX11_14 hk0)) cwX2_init imX2_init rfl mlX11_86 ⟨by decide, by decide⟩ rfl hl.1 (Nat.le_of_ble_eq_true rfl) ⟨by decide, by decide⟩ dX11_init_164 rfl (fun H locs hk => ?_)
  refine k_putF C hin hk kcX11 14 (by decide) flX11_87 rfl rfl rfl rfl (Nat.le_of_ble_eq_true rfl) (fs' := [.ref (b + (k + 1)), .ref (b + (k + 33)), .ref (b + (k + 35)), .ref (b + (k + 37)), .ref (b + (k + 39)), .ref (b + (k + 41)), .ref (b + (k + 42)), .ref (b + (k + 53)), .ref (b + (k + 62)), .ref (b + (k + 69)), .ref (b + (k + 72)), .ref (b + (k + 79)), .ref (b + (k + 329)), .int (0 : Int32), .ref (b + (k + 360)), .null]) rfl dX11_init_167 (fun H locs hk => ?_)
  refine lv_aload_n hx0 hb dX11_init_170 rfl (lv_at hl 0 rfl) ?_
  refine k_new (cp := 4) (fp := [.null, .null, .null, .null, .null, .int 0]) C hk kcX4 clX11_91 inX4 iniX4 (fun j hj => by rcases (show j = 0 ∨ j = 1 ∨ j = 2 ∨ j = 3 ∨ j = 4 ∨ j = 5 by omega) with rfl | rfl | rfl | rfl | rfl | rfl <;> rfl) ⟨by decide, by decide⟩ dX11_init_171 (fun H hk => ?_)
  refine lv_dup hx0 hb dX11_init_174 rfl ?_
  refine k_ctor (As := []) (rest := [.ref (b + (k + (1 + 372))), .ref (b + k)]) C hk (nX4 (k + (1 + 372)) (chX11_15 hk0)) cwX4_init imX4_init rfl mlX11_93 ⟨by decide, by decide⟩ rfl hl.1 (Nat.le_of_ble_eq_true rfl) ⟨by decide, by decide⟩ dX11_init_175 rfl (fun H locs hk => ?_)
  refine k_putF C hin hk kcX11 15 (by decide) flX11_94 rfl rfl rfl rfl (Nat.le_of_ble_eq_true rfl) (fs' := [.ref (b + (k + 1)), .ref (b + (k + 33)), .ref (b + (k + 35)), .ref (b + (k + 37)), .ref (b + (k + 39)), .ref (b + (k + 41)), .ref (b + (k + 42)), .ref (b + (k + 53)), .ref (b + (k + 62)), .ref (b + (k + 69)), .ref (b + (k + 72)), .ref (b + (k + 79)), .ref (b + (k + 329)), .int (0 : Int32), .ref (b + (k + 360)), .ref (b + (k + 373))]) rfl dX11_init_178 (fun H locs hk => ?_)
  refine lv_aload_n hx0 hb dX11_init_181 rfl (lv_at hl 0 rfl) ?_
  refine k_get C hk.2.1 kcX11 6 (by decide) flX11_48 (v := .ref (b + (k + 42))) rfl dX11_init_182 ?_
  refine lv_iconst (v := (2 : Int32)) hx0 hb dX11_init_185 (by decide) ?_
  obtain rfl := kd11 hk0
  have hcell : cellC E b Z0 0 = .inr (11, [.ref (b + (0 + 1)), .ref (b + (0 + 33)), .ref (b + (0 + 35)), .ref (b + (0 + 37)), .ref (b + (0 + 39)), .ref (b + (0 + 41)), .ref (b + (0 + 42)), .ref (b + (0 + 53)), .ref (b + (0 + 62)), .ref (b + (0 + 69)), .ref (b + (0 + 72)), .ref (b + (0 + 79)), .ref (b + (0 + 329)), .int (0 : Int32), .ref (b + (0 + 360)), .ref (b + (0 + 373))]) := by have h9 := ccX11 (E := E) (b := b) (σ := Z0) hk0; simp only [z0 hk0 (by decide)] at h9; exact h9
  have hWd : Wd E (LC E b) Z0 H := by
    refine ⟨fun q x hq => ?_, hk.2.2.2.2.2.2.1⟩
    obtain ⟨h1, rfl⟩ := wl_of hq
    have h1 : q < 384 := h1
    show va_at E.1 vwCl (b + q, cellC E b Z0 q) H
    rcases Nat.eq_zero_or_pos q with rfl | h2
    · rw [hcell]; exact hk.2.1
    · have h3 := hk.2.2.1 (q - 1) (by omega)
      have e3 : 0 + 1 + (q - 1) = q := by omega
      rw [e3] at h3
      exact h3
  refine g_callV (L := LC E b) (k := 0 + 42) (A0 := fun q => b + 0 ≤ q) (As := [.int (2 : Int32)]) (rest := []) C hWd hk.2.2.2.2.1 (fun q z => z.1) hk.2.2.2.2.2.1 (kdlt (chX11_6 hk0) (by decide)) (ccX10 (chX11_6 hk0)) kcX10 (mX10_addQuire (0 + 42) 2 (chX11_6 hk0) Z0 σ1 hσ) cwX10_addQuire cvX10_addQuire rfl mlX11_98 ⟨by decide, by decide⟩ rfl hl.1 (Nat.le_of_ble_eq_true rfl) ⟨by decide, by decide⟩ dX11_init_186 rfl (fun H1 locs1 hW1 hz1 hf1 hl1 => ?_)
  have hsz : H.size = b + 384 := hk.1
  exact W.vret hx0 hb C.2.2.2.2.2.2.1 (fun t ht _ => ⟨rfl, by rw [ht]; omega, by rw [ht]; exact hW1, fun q hq => by rw [ht]; exact (hf1 q (by omega) (fun z => absurd z.1 (Nat.not_le.mpr hq))).trans (hk.2.2.2.1 q hq)⟩) hl1 dX11_init_189 (hlocks := C.2.2.2.2.2.1)
