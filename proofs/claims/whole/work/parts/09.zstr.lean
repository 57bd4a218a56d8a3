/-! TEXTS: length and charAt of the classes' texts, out of the JDK's own code -/
theorem byt_ok : ∀ q ∈ bytL, ∀ v ∈ q, ((v &&& 255).toUInt32 % 65536).toInt32 = v ∧ narrow .char (.int v) = .int v := by decide +kernel
theorem byt_len : ∀ q ∈ bytL, q.length < 100 := by decide +kernel
theorem byt_at {i : Nat} (hi : i < bytL.length) : bytL[i]? = some (bytL.getD i []) := by
  unfold List.getD; rw [List.getElem?_eq_getElem hi]; rfl
theorem getD_mem {α : Type} {l : List α} {j : Nat} {d : α} (h : j < l.length) : l.getD j d ∈ l := by
  unfold List.getD
  rw [List.getElem?_eq_getElem h]
  exact List.getElem_mem h
theorem byt_v (i j : Nat) : ((((bytL.getD i []).getD j 0) &&& 255).toUInt32 % 65536).toInt32 = (bytL.getD i []).getD j 0 ∧ narrow .char (.int ((bytL.getD i []).getD j 0)) = .int ((bytL.getD i []).getD j 0) := by
  by_cases hi : i < bytL.length
  · by_cases hj : j < (bytL.getD i []).length
    · exact byt_ok _ (getD_mem hi) _ (getD_mem hj)
    · rw [getD_out (l := bytL.getD i []) (Nat.le_of_not_lt hj)]; decide +kernel
  · rw [getD_out (l := bytL) (Nat.le_of_not_lt hi), getD_out (l := []) (Nat.zero_le _)]; decide +kernel
section RowsT
variable {p : Program} {l : Launch} {e : Env} {R : Room} {s : State} {m : MethodId} {args : Array Value} {below : List Frame} {meth : Method} {c : Code} {H : Heap} {locs : List Loc} {cells slots : Nat} {Q : State → Prop}
variable {E : Ev} {L : Lay} {σ : Mem} {cc : ByteArray} {nL : Nat} {own : String} {rt : Option FieldType} {pc : Nat} {ls : Array Slot} {rest : List Value}
theorem ao_keep (hO : Od E H) : ∀ a : Nat, a < E.2.1.size → ¬ Ao E a → H[a]? = E.2.1[a]? := fun a h _ => hO.2 a h
theorem ao_nar (h : E.2.1.size ≤ L.2.1) : ∀ q, La L q → Ao E q := fun _ z => Nat.le_trans h z.1
theorem xZ (C : Cx p l s m args meth c E cc nL own rt) (hL : E.2.1.size ≤ L.2.1) : va_Z "java/lang/String" "COMPACT_STRINGS" "Z" (.int 1) (La L) s s.heap := by
  obtain ⟨hx, hb, hml, hown, hts, hlocks, hr, ⟨hK, hX⟩, hO⟩ := C
  exact (hX.2.2.2.2.1.kept (ao_keep hO)).narrow (ao_nar hL)
theorem xF (C : Cx p l s m args meth c E cc nL own rt) (hL : E.2.1.size ≤ L.2.1) : va_Zq "jdk/internal/util/Preconditions" "SIOOBE_FORMATTER" "Ljava/util/function/BiFunction;" (La L) s s.heap := by
  obtain ⟨hx, hb, hml, hown, hts, hlocks, hr, ⟨hK, hX⟩, hO⟩ := C
  exact (hX.1.2.kept (ao_keep hO)).narrow (ao_nar hL)
theorem xS (C : Cx p l s m args meth c E cc nL own rt) (hL : E.2.1.size ≤ L.2.1) {i : Nat} (hi : i < bytL.length) : va_O "java/lang/String" (E.2.2.1 i) (La L) s s.heap ∧ va_OF "java/lang/String" "coder" "B" (.int 0) (E.2.2.1 i) (La L) s s.heap ∧ va_OF "java/lang/String" "value" "[B" (.ref (E.2.2.2.1 i)) (E.2.2.1 i) (La L) s s.heap ∧ va_T .byte (E.2.2.2.1 i) (bytL.getD i []).length (fun j => .int ((bytL.getD i []).getD j 0)) (La L) s s.heap := by
  obtain ⟨hx, hb, hml, hown, hts, hlocks, hr, ⟨hK, hX⟩, hO⟩ := C
  obtain ⟨h1, h2, h3, h4⟩ := hX.2.2.2.2.2.2 i _ (byt_at hi)
  exact ⟨(h1.kept (ao_keep hO)).narrow (ao_nar hL), (h2.kept (ao_keep hO)).narrow (ao_nar hL), (h3.kept (ao_keep hO)).narrow (ao_nar hL), (h4.kept (ao_keep hO)).narrow (ao_nar hL)⟩
theorem w_nret {ty : FieldType} (C : Cx p l s m args meth c E cc nL own (some ty)) (hW : Wd E L σ H) (hS : va_S (La L) s.heap H locs) {v : Int32} (hn : narrow ty (.int v) = .int v) (hdg : decode cc pc = .ok (.ireturn, 1)) : W p l e R s m args below meth c H locs cells slots (MQ below (Qz E L (some (.int v)) σ) args s cells slots (La L)) (F0 m pc ls [.int v]) := by
  obtain ⟨hx, hb, hml, hown, hts, hlocks, hr, ⟨hK, hX⟩, hO⟩ := C
  exact W.zret hx hb hr hn (fun t ht hW2 => ⟨rfl, by rw [ht]; exact hW, hS.F ht⟩) hS.2.2 hdg
/-- a call on one of the texts -/
theorem w_callT (C : Cx p l s m args meth c E cc nL own rt) (hW : Wd E L σ H) (hS : va_S (La L) s.heap H locs) {i : Nat} (hi : i < bytL.length)
    {y : MethodName} {cb : ByteArray} {ml n : Nat} {ry : Option FieldType} {fr lo : Nat} {As : List Value} {rv : Option Value} {σ' : Mem} (hM : Met l y (tw y cb ml ry) { frames := fr, cells := 0, slots := 0, locals := lo } (va_Pc (.ref (E.2.2.1 i) :: As) (Pr l E L σ)) (Qz E L rv σ') 0 0 (La L)) (cw : CW y cb ml ry n) (cv : CV y) (hCn : y.cls = "java/lang/String") {index : Nat} (hlk : Cond.methodLink own index y ∈ tb) (hR : fr + 1 ≤ R.frames ∧ 8 + (ml + 11) + lo ≤ R.locals)
    (hn : As.length = n) (hls : ls.size = nL) (hsum : (rest.map fun v => v.category).sum ≤ 8) (hf : cells ≤ R.cells ∧ slots ≤ R.slots) (hdg : decode cc pc = .ok (.invokevirtual index, 3)) {st : List Value} (hst : st = As.reverse ++ .ref (E.2.2.1 i) :: rest)
    (kk : ∀ (H1 : Heap) (locs1 : List Loc), Wd E L σ' H1 → va_S (La L) s.heap H1 locs1 → W p l e R s m args below meth c H1 locs1 cells slots Q (F0 m (pc + 3) ls (rv.toList ++ rest))) : W p l e R s m args below meth c H locs cells slots Q (F0 m pc ls st) := by
  have hO1 := (xS C hW.2 hi).1.kept hS.2.1
  obtain ⟨hx, hb, hml, hown, hts, hlocks, hr, ⟨hK, hX⟩, hO⟩ := C
  obtain ⟨w1, w2, w3, w4⟩ := cw
  have hO2 : Od E H := hO.go hW.2 hS
  obtain ⟨ce, o1, o2, o3, -⟩ := hO1
  have cb0 : CallB R s args own index y cb ml ry (tw y cb ml ry) { frames := fr, cells := 0, slots := 0, locals := lo } 0 0 n := callB_of n hts (tw_good w1) rfl rfl rfl (hts _ w2) (hts _ hlk) ⟨w3.1, w3.2, w4⟩ hR
  have hrun := va_runV (p := p) (e := e) (below := below) (meth := meth) (H := H) (locs := locs) (cells := cells) (slots := slots) (g := F0 m pc ls st) (rest := rest) ⟨hx, hb, hml, hown, hts⟩ hM ⟨cb0, hts _ cv.1, hts _ cv.2⟩ ⟨Pr.blind _, ⟨ce, o1, o2, by rw [hCn]; exact o3⟩, fun U hU hWm => ⟨rfl, Kn.warm hWm ⟨hK, hX⟩, by rw [hU]; exact hW, by rw [hU]; exact hO2⟩⟩ rfl hn hls hst (lv_room hsum) hdg hf
  intro Tt hT X
  obtain ⟨v, st₀, t, T', L', h0, X', hL, e1, e2, ⟨hv, hw, hz, hk2⟩, stp⟩ := hrun Tt hT X
  cases hv
  rw [h0] at hz hk2
  obtain ⟨t2, a1, b1⟩ := kk T'.heap (locs ++ L') (by rw [e1]; exact hw) ⟨Nat.le_trans hS.1 (by rw [e1]; exact hz), fun q h1 h2 => by rw [e1, hk2 q (Nat.lt_of_lt_of_le h1 hS.1) h2]; exact hS.2.1 q h1 h2, fun q hq => by
      rcases List.mem_append.mp hq with h | h
      · exact hS.2.2 q h
      · exact hL q h⟩ T' rfl X'
  exact ⟨t2, stp t2 a1, b1⟩
end RowsT
set_option maxRecDepth 100000 in
set_option maxHeartbeats 4000000 in
theorem mJ0_coder {l : Launch} {E : Ev} {L : Lay} (i : Nat) (hi : i < bytL.length) (σ : Mem) : Met l yJ0_coder_7d493 (tw yJ0_coder_7d493 cJ0_coder_7d493 1 (some .byte)) { frames := 0, cells := 0, slots := 0, locals := 0 } (va_Pc [.ref (E.2.2.1 i)] (Pr l E L σ)) (Qz E L (some (.int 0)) σ) 0 0 (La L) := by
  refine ct_of (by decide) (Nat.le_of_ble_eq_true rfl) ?_
  intro p e s m below meth c C hW hS ls hl
  have hx0 := C.1
  have hb := C.2.1
  have hl : lv_has ls 1 [(0, .ref (E.2.2.1 i))] := hl
  refine va_gets hx0 hb (xZ C hW.2) hS C.2.2.2.1 (C.2.2.2.2.1 _ flJ0_38) (fun _ h => h) dJ0_coder_7d493_0 ?_
  refine lv_if_eq (tgt := 13) hx0 hb dJ0_coder_7d493_3 (by decide) (fun z => absurd z (by decide)) (fun _ => ?_)
  refine lv_aload_n hx0 hb dJ0_coder_7d493_6 rfl (lv_at hl 0 rfl) ?_
  refine vk_getf hx0 hb (xS C hW.2 hi).2.1 hS C.2.2.2.1 (C.2.2.2.2.1 _ flJ0_15) (fun _ h => h) dJ0_coder_7d493_7 ?_
  refine lv_goto (tgt := 14) hx0 hb dJ0_coder_7d493_10 (by decide) ?_
  exact w_nret C hW hS (by decide +kernel) dJ0_coder_7d493_14
set_option maxRecDepth 100000 in
set_option maxHeartbeats 4000000 in
theorem mJ0_isLatin1 {l : Launch} {E : Ev} {L : Lay} (i : Nat) (hi : i < bytL.length) (σ : Mem) : Met l yJ0_isLatin1_aae02 (tw yJ0_isLatin1_aae02 cJ0_isLatin1_aae02 1 (some .boolean)) { frames := 0, cells := 0, slots := 0, locals := 0 } (va_Pc [.ref (E.2.2.1 i)] (Pr l E L σ)) (Qz E L (some (.int 1)) σ) 0 0 (La L) := by
  refine ct_of (by decide) (Nat.le_of_ble_eq_true rfl) ?_
  intro p e s m below meth c C hW hS ls hl
  have hx0 := C.1
  have hb := C.2.1
  have hl : lv_has ls 1 [(0, .ref (E.2.2.1 i))] := hl
  refine va_gets hx0 hb (xZ C hW.2) hS C.2.2.2.1 (C.2.2.2.2.1 _ flJ0_38) (fun _ h => h) dJ0_isLatin1_aae02_0 ?_
  refine lv_if_eq (tgt := 17) hx0 hb dJ0_isLatin1_aae02_3 (by decide) (fun z => absurd z (by decide)) (fun _ => ?_)
  refine lv_aload_n hx0 hb dJ0_isLatin1_aae02_6 rfl (lv_at hl 0 rfl) ?_
  refine vk_getf hx0 hb (xS C hW.2 hi).2.1 hS C.2.2.2.1 (C.2.2.2.2.1 _ flJ0_15) (fun _ h => h) dJ0_isLatin1_aae02_7 ?_
  refine lv_if_ne (tgt := 17) hx0 hb dJ0_isLatin1_aae02_10 (by decide) (fun z => absurd rfl z) (fun _ => ?_)
  refine lv_iconst (v := (1 : Int32)) hx0 hb dJ0_isLatin1_aae02_13 (by decide) ?_
  refine lv_goto (tgt := 18) hx0 hb dJ0_isLatin1_aae02_14 (by decide) ?_
  exact w_zret C hW hS (Or.inr rfl) dJ0_isLatin1_aae02_18
theorem shr0 (x : Int32) : x >>> ((0 : Int32) &&& 31) = x := by
  apply Int32.toBitVec_inj.mp
  simp
set_option maxRecDepth 100000 in
set_option maxHeartbeats 4000000 in
theorem mJ0_length {l : Launch} {E : Ev} {L : Lay} (i : Nat) (hi : i < bytL.length) (σ : Mem) : Met l yJ0_length_8abf5 (tw yJ0_length_8abf5 cJ0_length_8abf5 1 (some .int)) { frames := 1, cells := 0, slots := 0, locals := 20 } (va_Pc [.ref (E.2.2.1 i)] (Pr l E L σ)) (Qz E L (some (.int (Int32.ofNat (bytL.getD i []).length))) σ) 0 0 (La L) := by
  refine ct_of (by decide) (Nat.le_of_ble_eq_true rfl) ?_
  intro p e s m below meth c C hW hS ls hl
  have hx0 := C.1
  have hb := C.2.1
  have hl : lv_has ls 1 [(0, .ref (E.2.2.1 i))] := hl
  refine lv_aload_n hx0 hb dJ0_length_8abf5_0 rfl (lv_at hl 0 rfl) ?_
  refine vk_getf hx0 hb (xS C hW.2 hi).2.2.1 hS C.2.2.2.1 (C.2.2.2.2.1 _ flJ0_9) (fun _ h => h) dJ0_length_8abf5_1 ?_
  refine va_tlen hx0 hb (xS C hW.2 hi).2.2.2 hS rfl dJ0_length_8abf5_4 ?_
  refine lv_aload_n hx0 hb dJ0_length_8abf5_5 rfl (lv_at hl 0 rfl) ?_
  refine w_callT (L := L) (As := []) (rest := [.int (Int32.ofNat (bytL.getD i []).length)]) C hW hS hi (mJ0_coder i hi σ) cwJ0_coder_7d493 cvJ0_coder_7d493 rfl mlJ0_335 ⟨by decide, by decide⟩ rfl hl.1 (Nat.le_of_ble_eq_true rfl) ⟨by decide, by decide⟩ dJ0_length_8abf5_6 rfl (fun H locs hW hS => ?_)
  refine lv_ishr hx0 hb dJ0_length_8abf5_9 ?_
  rw [shr0]
  exact w_iret C hW hS dJ0_length_8abf5_10
set_option maxRecDepth 100000 in
set_option maxHeartbeats 4000000 in
theorem mJ3_checkIndex {l : Launch} {E : Ev} {L : Lay} (x0 x1 : Int32) (v2 : Value) (h0 : ¬ x0 < 0) (h1 : x0 < x1) (hv : (lg_sl [.int x0, .int x1, v2]).length ≤ 3) (hv2 : v2.category = 1) (σ : Mem) : Met l yJ3_checkIndex_8e157 (tw yJ3_checkIndex_8e157 cJ3_checkIndex_8e157 3 (some .int)) { frames := 0, cells := 0, slots := 0, locals := 0 } (va_Pc [.int x0, .int x1, v2] (Pr l E L σ)) (Qz E L (some (.int x0)) σ) 0 0 (La L) := by
  refine ct_of (by decide) hv ?_
  intro p e s m below meth c C hW hS ls hl
  have hx0 := C.1
  have hb := C.2.1
  have hl : lv_has ls 3 [(0, .int x0), (1, .int x1)] := lv_sub hl [0, 1] rfl
  refine lv_iload_n hx0 hb dJ3_checkIndex_8e157_0 rfl (lv_at hl 0 rfl) ?_
  refine lv_if_lt (tgt := 9) hx0 hb dJ3_checkIndex_8e157_1 (by decide) (fun z => absurd z h0) (fun _ => ?_)
  refine lv_iload_n hx0 hb dJ3_checkIndex_8e157_4 rfl (lv_at hl 0 rfl) ?_
  refine lv_iload_n hx0 hb dJ3_checkIndex_8e157_5 rfl (lv_at hl 1 rfl) ?_
  refine lv_icmp_lt (tgt := 16) hx0 hb dJ3_checkIndex_8e157_6 (by decide) (fun _ => ?_) (fun z => absurd h1 z)
  refine lv_iload_n hx0 hb dJ3_checkIndex_8e157_16 rfl (lv_at hl 0 rfl) ?_
  exact w_iret C hW hS dJ3_checkIndex_8e157_17
set_option maxRecDepth 100000 in
set_option maxHeartbeats 4000000 in
theorem mJ0_checkIndex {l : Launch} {E : Ev} {L : Lay} (x0 x1 : Int32) (h0 : ¬ x0 < 0) (h1 : x0 < x1) (σ : Mem) : Met l yJ0_checkIndex_df160 (tw yJ0_checkIndex_df160 cJ0_checkIndex_df160 2 none) { frames := 1, cells := 0, slots := 0, locals := 22 } (va_Pc [.int x0, .int x1] (Pr l E L σ)) (Qz E L none σ) 0 0 (La L) := by
  refine ct_of (by decide) (Nat.le_of_ble_eq_true rfl) ?_
  intro p e s m below meth c C hW hS ls hl
  have hx0 := C.1
  have hb := C.2.1
  have hl : lv_has ls 2 [(0, .int x0), (1, .int x1)] := hl
  refine lv_iload_n hx0 hb dJ0_checkIndex_df160_0 rfl (lv_at hl 0 rfl) ?_
  refine lv_iload_n hx0 hb dJ0_checkIndex_df160_1 rfl (lv_at hl 1 rfl) ?_
  rcases xF C hW.2 with hz | ⟨t, hz⟩
  · refine va_gets hx0 hb hz hS C.2.2.2.1 (C.2.2.2.2.1 _ flJ0_1053) (fun _ h => h) dJ0_checkIndex_df160_2 ?_
    refine w_callS (L := L) (As := [.int x0, .int x1, .null]) (rest := []) C hW hS (mJ3_checkIndex x0 x1 .null h0 h1 (Nat.le_of_ble_eq_true rfl) rfl σ) cwJ3_checkIndex_8e157 csJ3_checkIndex_8e157 mlJ0_1059 ⟨by decide, by decide⟩ rfl hl.1 (Nat.le_of_ble_eq_true rfl) ⟨by decide, by decide⟩ dJ0_checkIndex_df160_5 rfl (fun H locs hW hS => ?_)
    refine lv_pop hx0 hb dJ0_checkIndex_df160_8 rfl ?_
    exact w_vret C hW hS dJ0_checkIndex_df160_9
  · refine va_gets hx0 hb hz hS C.2.2.2.1 (C.2.2.2.2.1 _ flJ0_1053) (fun _ h => h) dJ0_checkIndex_df160_2 ?_
    refine w_callS (L := L) (As := [.int x0, .int x1, .ref t]) (rest := []) C hW hS (mJ3_checkIndex x0 x1 (.ref t) h0 h1 (Nat.le_of_ble_eq_true rfl) rfl σ) cwJ3_checkIndex_8e157 csJ3_checkIndex_8e157 mlJ0_1059 ⟨by decide, by decide⟩ rfl hl.1 (Nat.le_of_ble_eq_true rfl) ⟨by decide, by decide⟩ dJ0_checkIndex_df160_5 rfl (fun H locs hW hS => ?_)
    refine lv_pop hx0 hb dJ0_checkIndex_df160_8 rfl ?_
    exact w_vret C hW hS dJ0_checkIndex_df160_9
theorem lt_of_in {x : Int32} {n : Nat} (hn : n < 100) (h : ¬ (x < 0 ∨ n ≤ x.toNatClampNeg)) : x < Int32.ofNat n := by
  have h1 : ¬ x < 0 := fun z => h (Or.inl z)
  have h2 : x.toNatClampNeg < n := Nat.not_le.mp fun z => h (Or.inr z)
  rw [Int32.lt_iff_toInt_lt] at h1 ⊢
  have e0 : (0 : Int32).toInt = 0 := rfl
  rw [e0] at h1
  have e1 : (Int32.ofNat n).toInt = n := Int32.toInt_ofNat_of_lt (by omega)
  rw [e1]
  have e2 : x.toNatClampNeg = x.toInt.toNat := rfl
  omega
set_option maxRecDepth 100000 in
set_option maxHeartbeats 4000000 in
theorem mJ1_charAt {l : Launch} {E : Ev} {L : Lay} (i : Nat) (hi : i < bytL.length) (x1 : Int32) (hx1 : ¬ (x1 < 0 ∨ (bytL.getD i []).length ≤ x1.toNatClampNeg)) (σ : Mem) : Met l yJ1_charAt_3b067 (tw yJ1_charAt_3b067 cJ1_charAt_3b067 2 (some .char)) { frames := 2, cells := 0, slots := 0, locals := 43 } (va_Pc [.ref (E.2.2.2.1 i), .int x1] (Pr l E L σ)) (Qz E L (some (.int ((bytL.getD i []).getD x1.toNatClampNeg 0))) σ) 0 0 (La L) := by
  refine ct_of (by decide) (Nat.le_of_ble_eq_true rfl) ?_
  intro p e s m below meth c C hW hS ls hl
  have hx0 := C.1
  have hb := C.2.1
  have hl : lv_has ls 2 [(0, .ref (E.2.2.2.1 i)), (1, .int x1)] := hl
  refine lv_iload_n hx0 hb dJ1_charAt_3b067_0 rfl (lv_at hl 1 rfl) ?_
  refine lv_aload_n hx0 hb dJ1_charAt_3b067_1 rfl (lv_at hl 0 rfl) ?_
  refine va_tlen hx0 hb (xS C hW.2 hi).2.2.2 hS rfl dJ1_charAt_3b067_2 ?_
  refine w_callS (L := L) (As := [.int x1, .int (Int32.ofNat (bytL.getD i []).length)]) (rest := []) C hW hS (mJ0_checkIndex x1 _ (fun z => hx1 (Or.inl z)) (lt_of_in (byt_len _ (List.mem_of_getElem? (byt_at hi))) hx1) σ) cwJ0_checkIndex_df160 csJ0_checkIndex_df160 mlJ1_9 ⟨by decide, by decide⟩ rfl hl.1 (Nat.le_of_ble_eq_true rfl) ⟨by decide, by decide⟩ dJ1_charAt_3b067_3 rfl (fun H locs hW hS => ?_)
  refine lv_aload_n hx0 hb dJ1_charAt_3b067_6 rfl (lv_at hl 0 rfl) ?_
  refine lv_iload_n hx0 hb dJ1_charAt_3b067_7 rfl (lv_at hl 1 rfl) ?_
  refine va_tb hx0 hb (xS C hW.2 hi).2.2.2 hS hx1 rfl dJ1_charAt_3b067_8 ?_
  refine lv_sipush (v := (255 : Int32)) hx0 hb dJ1_charAt_3b067_9 (by decide) ?_
  refine lv_iand hx0 hb dJ1_charAt_3b067_12 ?_
  refine lv_i2c hx0 hb dJ1_charAt_3b067_13 (byt_v i x1.toNatClampNeg).1 ?_
  exact w_nret C hW hS (byt_v i x1.toNatClampNeg).2 dJ1_charAt_3b067_14
set_option maxRecDepth 100000 in
set_option maxHeartbeats 4000000 in
theorem mJ0_charAt {l : Launch} {E : Ev} {L : Lay} (i : Nat) (hi : i < bytL.length) (x1 : Int32) (hx1 : ¬ (x1 < 0 ∨ (bytL.getD i []).length ≤ x1.toNatClampNeg)) (σ : Mem) : Met l yJ0_charAt_5068e (tw yJ0_charAt_5068e cJ0_charAt_5068e 2 (some .char)) { frames := 3, cells := 0, slots := 0, locals := 64 } (va_Pc [.ref (E.2.2.1 i), .int x1] (Pr l E L σ)) (Qz E L (some (.int ((bytL.getD i []).getD x1.toNatClampNeg 0))) σ) 0 0 (La L) := by
  refine ct_of (by decide) (Nat.le_of_ble_eq_true rfl) ?_
  intro p e s m below meth c C hW hS ls hl
  have hx0 := C.1
  have hb := C.2.1
  have hl : lv_has ls 2 [(0, .ref (E.2.2.1 i)), (1, .int x1)] := hl
  refine lv_aload_n hx0 hb dJ0_charAt_5068e_0 rfl (lv_at hl 0 rfl) ?_
  refine w_callT (L := L) (As := []) (rest := []) C hW hS hi (mJ0_isLatin1 i hi σ) cwJ0_isLatin1_aae02 cvJ0_isLatin1_aae02 rfl mlJ0_492 ⟨by decide, by decide⟩ rfl hl.1 (Nat.le_of_ble_eq_true rfl) ⟨by decide, by decide⟩ dJ0_charAt_5068e_1 rfl (fun H locs hW hS => ?_)
  refine lv_if_eq (tgt := 16) hx0 hb dJ0_charAt_5068e_4 (by decide) (fun z => absurd z (by decide)) (fun _ => ?_)
  refine lv_aload_n hx0 hb dJ0_charAt_5068e_7 rfl (lv_at hl 0 rfl) ?_
  refine vk_getf hx0 hb (xS C hW.2 hi).2.2.1 hS C.2.2.2.1 (C.2.2.2.2.1 _ flJ0_9) (fun _ h => h) dJ0_charAt_5068e_8 ?_
  refine lv_iload_n hx0 hb dJ0_charAt_5068e_11 rfl (lv_at hl 1 rfl) ?_
  refine w_callS (L := L) (As := [.ref (E.2.2.2.1 i), .int x1]) (rest := []) C hW hS (mJ1_charAt i hi x1 hx1 σ) cwJ1_charAt_3b067 csJ1_charAt_3b067 mlJ0_495 ⟨by decide, by decide⟩ rfl hl.1 (Nat.le_of_ble_eq_true rfl) ⟨by decide, by decide⟩ dJ0_charAt_5068e_12 rfl (fun H locs hW hS => ?_)
  exact w_nret C hW hS (byt_v i x1.toNatClampNeg).2 dJ0_charAt_5068e_15
section RowsU
variable {p : Program} {l : Launch} {e : Env} {R : Room} {s : State} {m : MethodId} {args : Array Value} {below : List Frame} {meth : Method} {c : Code} {H : Heap} {locs : List Loc} {cells slots : Nat} {Q : State → Prop}
variable {E : Ev} {L : Lay} {σ : Mem} {cc : ByteArray} {nL : Nat} {own : String} {rt : Option FieldType} {pc index i : Nat} {ls : Array Slot} {rest : List Value}
theorem w_slen (C : Cx p l s m args meth c E cc nL own rt) (hW : Wd E L σ H) (hS : va_S (La L) s.heap H locs) (hi : i < bytL.length) (hlk : Cond.methodLink own index yJ0_length_8abf5 ∈ tb) (hR : 2 ≤ R.frames ∧ 40 ≤ R.locals) (hls : ls.size = nL) (hsum : (rest.map fun v => v.category).sum ≤ 8) (hf : cells ≤ R.cells ∧ slots ≤ R.slots) (hdg : decode cc pc = .ok (.invokevirtual index, 3))
    (kk : ∀ (H1 : Heap) (locs1 : List Loc), Wd E L σ H1 → va_S (La L) s.heap H1 locs1 → W p l e R s m args below meth c H1 locs1 cells slots Q (F0 m (pc + 3) ls (.int (Int32.ofNat (bytL.getD i []).length) :: rest))) : W p l e R s m args below meth c H locs cells slots Q (F0 m pc ls (.ref (E.2.2.1 i) :: rest)) :=
  w_callT (As := []) (rest := rest) C hW hS hi (mJ0_length i hi σ) cwJ0_length_8abf5 cvJ0_length_8abf5 rfl hlk ⟨hR.1, hR.2⟩ rfl hls hsum hf hdg rfl kk
theorem w_schr (C : Cx p l s m args meth c E cc nL own rt) (hW : Wd E L σ H) (hS : va_S (La L) s.heap H locs) (hi : i < bytL.length) {x : Int32} (hx1 : ¬ (x < 0 ∨ (bytL.getD i []).length ≤ x.toNatClampNeg)) (hlk : Cond.methodLink own index yJ0_charAt_5068e ∈ tb) (hR : 4 ≤ R.frames ∧ 85 ≤ R.locals) (hls : ls.size = nL) (hsum : (rest.map fun v => v.category).sum ≤ 8) (hf : cells ≤ R.cells ∧ slots ≤ R.slots) (hdg : decode cc pc = .ok (.invokevirtual index, 3))
    (kk : ∀ (H1 : Heap) (locs1 : List Loc), Wd E L σ H1 → va_S (La L) s.heap H1 locs1 → W p l e R s m args below meth c H1 locs1 cells slots Q (F0 m (pc + 3) ls (.int ((bytL.getD i []).getD x.toNatClampNeg 0) :: rest))) : W p l e R s m args below meth c H locs cells slots Q (F0 m pc ls (.int x :: .ref (E.2.2.1 i) :: rest)) :=
  w_callT (As := [.int x]) (rest := rest) C hW hS hi (mJ0_charAt i hi x hx1 σ) cwJ0_charAt_5068e cvJ0_charAt_5068e rfl hlk ⟨hR.1, hR.2⟩ rfl hls hsum hf hdg rfl kk
end RowsU
