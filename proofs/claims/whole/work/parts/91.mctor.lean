/-! PageArchiveModel() -/
/-- the reference under its constructor, i arrays so far -/
def SM (E : Ev) (b : Nat) (σ : Mem) (fs : List Value) (i : Nat) (s : State) (H : Heap) (locs : List Loc) : Prop := H.size = b + (1 + i) ∧ va_at E.1 vwCl (b + 0, .inr (12, fs)) H ∧ (∀ j, j < i → va_at E.1 vwCl (b + (1 + j), cellM E b σ (1 + j)) H) ∧ (∀ q, q < b → H[q]? = s.heap[q]?) ∧ (∀ z ∈ locs, b ≤ z.base ∧ z.base < b + 18) ∧ Od E H ∧ E.2.1.size ≤ b
section RowsQ
variable {p : Program} {l : Launch} {e : Env} {R : Room} {s : State} {m : MethodId} {args : Array Value} {below : List Frame} {meth : Method} {c : Code} {H : Heap} {locs : List Loc} {cells slots mc ms : Nat} {Q : State → Prop}
variable {E : Ev} {b i : Nat} {σ : Mem} {fs : List Value} {cc : ByteArray} {nL : Nat} {own : String} {rt : Option FieldType} {pc index : Nat} {ls : Array Slot} {rest : List Value}
theorem q_fin {a sl : Nat} {fs' : List Value} {H1 : Heap} (ha : a = b + 0) (hk : SM E b σ fs i s H locs) (h1 : va_at E.1 vwCl (b + 0, .inr (12, fs')) H1) (hz : H1.size = H.size) (ho : ∀ q, q ≠ a → H1[q]? = H[q]?) : SM E b σ fs' i s H1 (locs ++ [⟨a, sl⟩]) := by
  obtain ⟨z1, z2, z3, z4, z5, z6, z7⟩ := hk
  refine ⟨hz.trans z1, h1, fun j hj => (z3 j hj).kept (ho (b + (1 + j)) (by omega)), fun q hq => (ho q (by omega)).trans (z4 q hq), fun z hz => ?_, ⟨by rw [hz]; exact z6.1, fun q hq => (ho q (by have := z7; omega)).trans (z6.2 q hq)⟩, z7⟩
  rcases List.mem_append.mp hz with h | h
  · exact z5 z h
  · simp only [List.mem_cons, List.not_mem_nil, or_false] at h
    rw [h]
    show b ≤ a ∧ a < b + 18
    omega
theorem q_putF (C : Cx p l s m args meth c E cc nL own rt) (hin2 : meth.name = "<init>") (hk : SM E b σ fs i s H locs) {N : Nat} {T : u_T} {ty : Nat → FieldType} (kc : KC 12 own T N ty) (j : Nat) (hj : j < N) (hl : Cond.fieldLink own index (T j).1 (T j).2.1 (T j).2.2.1 ∈ tb) (hfin : (T j).2.2.2 = true) (hdecl : (T j).1 = own) {v : Value} (hn : narrow (ty j) v = v) (hfit : fits (ty j) v = true) (hlen : j < fs.length) {fs' : List Value} (hfs : fs.set j v = fs') (hdg : decode cc pc = .ok (.putfield index, 3))
    (kk : ∀ (H1 : Heap) (locs1 : List Loc), SM E b σ fs' i s H1 locs1 → W p l e R s m args below meth c H1 locs1 cells slots Q (F0 m (pc + 3) ls rest)) : W p l e R s m args below meth c H locs cells slots Q (F0 m pc ls (v :: .ref (b + 0) :: rest)) := by
  subst hfs
  obtain ⟨hx, hb, hml, hown, hts, hlocks, hr0, ⟨hK, hX⟩, hO⟩ := C
  obtain ⟨k1, k2, k3, k4⟩ := kc
  have hap := va_apart (own := own) hts k2 ty k3 k4 hK k1
  obtain ⟨r, h1, cell, q1, q2, q3, q4⟩ := hk.2.1
  have hr : r = (own, T, N) := Option.some.inj (h1.symm.trans k1)
  subst hr
  obtain ⟨hSl, hfc, kC, hkC, hkind⟩ := hK.1 12 _ k1
  obtain ⟨cf, kf, fi, f, hi, hsl⟩ := hSl j hj
  have hlay := hts _ (k2 _ (u_in_lay hj))
  unfold u_lay at hlay
  rw [if_pos hfin] at hlay
  have hst := (u_facts hfc hkC (u_lays hts k2 hj) hi).1
  have hcf : m.cls = cf := by
    obtain ⟨_, _, c', _, _, _, -, -, hf', -, -, -, hown2, -⟩ := Cond.laysFinal_spec hlay
    have e1 : c' = cf := by have := hi.symm.trans hf'; simp at this; exact this.1.symm
    rw [hdecl] at hown2
    rw [← e1]; exact Option.some.inj (hown.symm.trans hown2)
  have h6 := u_fits hfc hkC hkind (Or.inr hlay) hi (k3 j hj) hn hfit
  refine W.putFinK hx hb hown (hts _ hl) hi hst hcf hin2 (by rw [q2]; exact h6) q1 q3 (by rw [hsl]; exact k2_hasslot (q4 j hj)) rfl rfl hdg fun H' e1 e2 e3 => ?_
  rw [hsl] at e1 ⊢
  exact kk H' _ (q_fin rfl hk ⟨_, k1, t_OB.to (V := updV (vp_V fs) j v) ⟨_, e1, q2, q3, t_set q4 hap hj v⟩ (fun j2 _ => vp_updV_set hlen v j2)⟩ e2 e3)
theorem q_new (C : Cx p l s m args meth c E cc nL own rt) (hk : SM E b σ fs i s H locs) {atype : ArrayType} {t : Nat} {ty : FieldType} (hty : newarray.typeOf atype = ty) (hdv : defaultValue ty = .int 0) (hac : Cond.arrayClass ty ∈ tb) (htys : (tys E)[t]? = some (E.2.2.2.2 t, ty)) (hra : ∀ (U : State) (cA : ClassId), va_RA U cA ty → U.vm.findClass ("[" ++ ty.toString) = some cA) {N : Nat} (hcell : cellM E b σ (1 + i) = .inl (E.2.2.2.2 t, N, .inl (σ (1 + i)))) (hz0 : ∀ j, σ (1 + i) j = 0) {n : Int32} (hn : ¬ n < 0) (hN : n.toNatClampNeg = N) (hby : N * componentBytes ty ≤ 536870912) (hc : cells + 1 ≤ R.cells ∧ slots + N ≤ R.slots) (hdg : decode cc pc = .ok (.newarray atype, 2))
    (kk : ∀ H1 : Heap, SM E b σ fs (i + 1) s H1 locs → W p l e R s m args below meth c H1 locs (cells + 1) (slots + N) Q (F0 m (pc + 2) ls (.ref (b + (1 + i)) :: rest))) : W p l e R s m args below meth c H locs cells slots Q (F0 m pc ls (.int n :: rest)) := by
  subst hty
  obtain ⟨hx, hb, hml, hown, hts, hlocks, hr, ⟨hK, hX⟩, hO⟩ := C
  obtain ⟨z1, z2, z3, z4, z5, z6, z7⟩ := hk
  refine va_newaK (atype := atype) hx hb (hts _ hac) rfl hdg rfl hn hN hby hc.1 hc.2 z1 fun H1 cA e1 y1 o1 hAr hNm => ?_
  have hcA : cA = E.2.2.2.2 t := Option.some.inj (hNm.symm.trans (hra _ _ (hK.2 t _ htys).2))
  subst hcA
  refine kk H1 ⟨by rw [y1]; omega, z2.kept (o1 (b + 0) (by omega)), fun j hj => ?_, fun q hq => (o1 q (by omega)).trans (z4 q hq), z5, ⟨Nat.le_trans z6.1 (by omega), fun q hq => (o1 q (by have := z6.1; omega)).trans (z6.2 q hq)⟩, z7⟩
  by_cases hji : j = i
  · subst hji
    rw [hcell]
    show H1[b + (1 + j)]? = some (vp_cell (E.2.2.2.2 t) (N, .inl (σ (1 + j))))
    rw [e1, vp_cell_i]
    congr 2
    funext q
    rw [hdv, hz0]
  · exact (z3 j (by omega)).kept (o1 (b + (1 + j)) (by omega))
theorem q_ias (C : Cx p l s m args meth c E cc nL own rt) (hk : SM E b σ fs i s H locs) (hi : 10 < i) {x ix : Int32} (hin : ¬ (ix < 0 ∨ 13 ≤ ix.toNatClampNeg)) (hdg : decode cc pc = .ok (.iastore, 1))
    (kk : ∀ (H1 : Heap) (locs1 : List Loc), SM E b (up σ 11 ix.toNatClampNeg x) fs i s H1 locs1 → W p l e R s m args below meth c H1 locs1 cells slots Q (F0 m (pc + 1) ls rest)) : W p l e R s m args below meth c H locs cells slots Q (F0 m pc ls (.int x :: .int ix :: .ref (b + (1 + 10)) :: rest)) := by
  obtain ⟨hx, hb, hml, hown, hts, hlocks, hr, ⟨hK, hX⟩, hO⟩ := C
  obtain ⟨z1, z2, z3, z4, z5, z6, z7⟩ := hk
  have ec : ∀ σ : Mem, cellM E b σ (1 + 10) = .inl (E.2.2.2.2 0, 13, .inl (σ 11)) := fun σ => cmI (E := E) (b := b) (σ := σ) (k := 11) (by decide)
  have h11 := z3 10 hi
  rw [ec] at h11
  refine W.iast hx hb h11 ((hK.2 0 _ rfl).1 13 (fun j => .int (σ 11 j))) (fun q => by cases q) (by show ¬ (ix < 0 ∨ (arrV _ _ _).slots.size ≤ _); rw [arrV_size]; exact hin) rfl rfl hdg fun H1 e z oq => ?_
  refine kk H1 _ ⟨z.trans z1, z2.kept (oq (b + 0) (by show b + 0 ≠ b + (1 + 10); omega)), fun j hj => ?_, fun q hq => (oq q (by show q ≠ b + (1 + 10); omega)).trans (z4 q hq), fun z hz => ?_, ⟨by rw [z]; exact z6.1, fun q hq => (oq q (by show q ≠ b + (1 + 10); omega)).trans (z6.2 q hq)⟩, z7⟩
  · by_cases hj10 : j = 10
    · subst hj10
      rw [ec]
      show H1[b + (1 + 10)]? = some (vp_cell _ _)
      rw [e]
      show some _ = some _
      rw [vp_cell_i, vp_cell_i, arrV_store]
      congr 2
      funext q
      rw [up_at]
      by_cases hq : q = ix.toNatClampNeg
      · subst hq
        simp [updV, upd]
      · simp [updV, upd, hq]
    · have h3 := (z3 j hj).kept (oq (b + (1 + j)) (by show b + (1 + j) ≠ b + (1 + 10); omega))
      have e9 : cellM E b (up σ 11 ix.toNatClampNeg x) (1 + j) = cellM E b σ (1 + j) := cmN (E := E) (b := b) (up_ne σ _ _ (by omega))
      rw [e9]; exact h3
  · rcases List.mem_append.mp hz with h | h
    · exact z5 z h
    · simp only [List.mem_cons, List.not_mem_nil, or_false] at h
      rw [h]
      show b ≤ b + (1 + 10) ∧ b + (1 + 10) < b + 18
      omega
end RowsQ
def ZM : Mem := fun _ _ => 0
theorem ra_i (U : State) (cA : ClassId) (h : va_RA U cA .int) : U.vm.findClass ("[" ++ FieldType.int.toString) = some cA := h
theorem ra_b (U : State) (cA : ClassId) (h : va_RA U cA .byte) : U.vm.findClass ("[" ++ FieldType.byte.toString) = some cA := h
theorem ra_z (U : State) (cA : ClassId) (h : va_RA U cA .boolean) : U.vm.findClass ("[" ++ FieldType.boolean.toString) = some cA := h
def ZR : Mem := (up (up (up (up (up (up (up (up (up (up (up (up (up ZM 11 (0 : Int32).toNatClampNeg 1000) 11 (1 : Int32).toNatClampNeg 900) 11 (2 : Int32).toNatClampNeg 500) 11 (3 : Int32).toNatClampNeg 400) 11 (4 : Int32).toNatClampNeg 100) 11 (5 : Int32).toNatClampNeg 90) 11 (6 : Int32).toNatClampNeg 50) 11 (7 : Int32).toNatClampNeg 40) 11 (8 : Int32).toNatClampNeg 10) 11 (9 : Int32).toNatClampNeg 9) 11 (10 : Int32).toNatClampNeg 5) 11 (11 : Int32).toNatClampNeg 4) 11 (12 : Int32).toNatClampNeg 1)
theorem ZR_o {k : Nat} (j : Nat) (h : k ≠ 11) : ZR k j = 0 := by
  unfold ZR
  simp only [up_ne _ _ _ h]; rfl
theorem sm_wd {E : Ev} {b : Nat} {s : State} {H : Heap} {locs : List Loc} (hk : SM E b ZR [.int 0, .ref (b + (1 + 0)), .ref (b + (1 + 1)), .int 0, .int 0, .ref (b + (1 + 2)), .ref (b + (1 + 3)), .ref (b + (1 + 4)), .ref (b + (1 + 5)), .int 0, .int 0, .ref (b + (1 + 6)), .int 0, .int 0, .int 0, .int 0, .ref (b + (1 + 7)), .int 0, .ref (b + (1 + 8)), .ref (b + (1 + 9)), .int 0, .int 0, .ref (b + (1 + 10)), .ref (b + (1 + 11)), .ref (b + (1 + 12)), .ref (b + (1 + 13)), .int 0, .ref (b + (1 + 14)), .ref (b + (1 + 15)), .ref (b + (1 + 16))] 17 s H locs) (hsz : s.heap.size = b + 1) : Wd E (LM E b) ZR H ∧ va_S (La (LM E b)) s.heap H locs := by
  obtain ⟨z1, z2, z3, z4, z5, z6, z7⟩ := hk
  refine ⟨⟨fun q x hq => ?_, z7⟩, by omega, fun q h1 h2 => z4 q ?_, z5⟩
  · obtain ⟨h1, rfl⟩ := wl_of hq
    have h1 : q < 18 := h1
    show va_at E.1 vwCl (b + q, cellM E b ZR q) H
    rcases Nat.eq_zero_or_pos q with rfl | h2
    · exact z2
    · have h3 := z3 (q - 1) (by omega)
      have e3 : 1 + (q - 1) = q := by omega
      rw [e3] at h3
      exact h3
  · rcases Nat.lt_or_ge q b with z | z
    · exact z
    · exact absurd (show La (LM E b) q from ⟨z, show q < b + 18 by omega⟩) h2
theorem wd_size {E : Ev} {b : Nat} {σ : Mem} {H : Heap} (h : Wd E (LM E b) σ H) : b + 18 ≤ H.size := by
  have h0 := (h.1 17 _ (wl_at (L := LM E b) (σ := σ) (show 17 < 18 by decide))).lt
  have h0 : b + 17 < H.size := h0
  omega
set_option maxRecDepth 100000 in
set_option maxHeartbeats 8000000 in
theorem nX12 {l : Launch} {E : Ev} {b : Nat} (σ1 : Mem) (hσ : fX12_begins (up (up ZR 2 (0 : Int32).toNatClampNeg 2) 0 4 1) = some σ1) : Met l yX12_init (tw yX12_init cX12_init 1 none) { frames := 2, cells := 17, slots := 6376, locals := 45 } (va_Pc [.ref (b + 0)] (Pk l E b 0 12 [.int 0, .null, .null, .int 0, .int 0, .null, .null, .null, .null, .int 0, .int 0, .null, .int 0, .int 0, .int 0, .int 0, .null, .int 0, .null, .null, .int 0, .int 0, .null, .null, .null, .null, .int 0, .null, .null, .null])) (fun _ st o t => o = .returned none ∧ b + 18 ≤ t.heap.size ∧ Wd E (LM E b) σ1 t.heap ∧ ∀ q, q < b → t.heap[q]? = st.heap[q]?) 17 6376 (fun q => b + 0 ≤ q) := by
  refine ck_of (by decide) rfl (Nat.le_of_ble_eq_true rfl) ?_
  intro p e s m below meth c C hin hk0 ls hl
  have hx0 := C.1
  have hb := C.2.1
  have hl : lv_has ls 1 [(0, .ref (b + 0))] := hl
  have hsz : s.heap.size = b + 1 := hk0.1
  have hk : SM E b ZM [.int 0, .null, .null, .int 0, .int 0, .null, .null, .null, .null, .int 0, .int 0, .null, .int 0, .int 0, .int 0, .int 0, .null, .int 0, .null, .null, .int 0, .int 0, .null, .null, .null, .null, .int 0, .null, .null, .null] 0 s s.heap [] := ⟨hk0.1, hk0.2.1, fun j hj => absurd hj (Nat.not_lt_zero j), fun _ _ => rfl, (fun z hz => by cases hz), hk0.2.2.2.2.2.1, hk0.2.2.2.2.2.2.1⟩
  refine lv_aload_n hx0 hb dX12_init_0 rfl (lv_at hl 0 rfl) ?_
  refine k_obj C mlX12_7 hl.1 ⟨Nat.le_of_ble_eq_true rfl, Nat.le_of_ble_eq_true rfl⟩ dX12_init_1 ?_
  refine lv_aload_n hx0 hb dX12_init_4 rfl (lv_at hl 0 rfl) ?_
  refine lv_bipush (v := (8 : Int32)) hx0 hb dX12_init_5 (by decide) ?_
  refine q_new (atype := .int) (t := 0) (ty := .int) (N := 8) (i := 0) C hk rfl rfl ac_int rfl ra_i (cmI (E := E) (b := b) (σ := ZM) (k := 1) (by decide)) (fun _ => rfl) (by decide) (by decide) (by decide) ⟨by decide, by decide⟩ dX12_init_7 (fun H hk => ?_)
  refine q_putF C hin hk kcX12 1 (by decide) flX12_13 rfl rfl rfl rfl (Nat.le_of_ble_eq_true rfl) (fs' := [.int 0, .ref (b + (1 + 0)), .null, .int 0, .int 0, .null, .null, .null, .null, .int 0, .int 0, .null, .int 0, .int 0, .int 0, .int 0, .null, .int 0, .null, .null, .int 0, .int 0, .null, .null, .null, .null, .int 0, .null, .null, .null]) rfl dX12_init_9 (fun H locs hk => ?_)
  refine lv_aload_n hx0 hb dX12_init_12 rfl (lv_at hl 0 rfl) ?_
  refine lv_bipush (v := (8 : Int32)) hx0 hb dX12_init_13 (by decide) ?_
  refine q_new (atype := .int) (t := 0) (ty := .int) (N := 8) (i := 1) C hk rfl rfl ac_int rfl ra_i (cmI (E := E) (b := b) (σ := ZM) (k := 2) (by decide)) (fun _ => rfl) (by decide) (by decide) (by decide) ⟨by decide, by decide⟩ dX12_init_15 (fun H hk => ?_)
  refine q_putF C hin hk kcX12 2 (by decide) flX12_17 rfl rfl rfl rfl (Nat.le_of_ble_eq_true rfl) (fs' := [.int 0, .ref (b + (1 + 0)), .ref (b + (1 + 1)), .int 0, .int 0, .null, .null, .null, .null, .int 0, .int 0, .null, .int 0, .int 0, .int 0, .int 0, .null, .int 0, .null, .null, .int 0, .int 0, .null, .null, .null, .null, .int 0, .null, .null, .null]) rfl dX12_init_17 (fun H locs hk => ?_)
  refine lv_aload_n hx0 hb dX12_init_20 rfl (lv_at hl 0 rfl) ?_
  refine lv_sipush (v := (339 : Int32)) hx0 hb dX12_init_21 (by decide) ?_
  refine q_new (atype := .int) (t := 0) (ty := .int) (N := 339) (i := 2) C hk rfl rfl ac_int rfl ra_i (cmI (E := E) (b := b) (σ := ZM) (k := 3) (by decide)) (fun _ => rfl) (by decide) (by decide) (by decide) ⟨by decide, by decide⟩ dX12_init_24 (fun H hk => ?_)
  refine q_putF C hin hk kcX12 5 (by decide) flX12_20 rfl rfl rfl rfl (Nat.le_of_ble_eq_true rfl) (fs' := [.int 0, .ref (b + (1 + 0)), .ref (b + (1 + 1)), .int 0, .int 0, .ref (b + (1 + 2)), .null, .null, .null, .int 0, .int 0, .null, .int 0, .int 0, .int 0, .int 0, .null, .int 0, .null, .null, .int 0, .int 0, .null, .null, .null, .null, .int 0, .null, .null, .null]) rfl dX12_init_26 (fun H locs hk => ?_)
  refine lv_aload_n hx0 hb dX12_init_29 rfl (lv_at hl 0 rfl) ?_
  refine lv_sipush (v := (339 : Int32)) hx0 hb dX12_init_30 (by decide) ?_
  refine q_new (atype := .int) (t := 0) (ty := .int) (N := 339) (i := 3) C hk rfl rfl ac_int rfl ra_i (cmI (E := E) (b := b) (σ := ZM) (k := 4) (by decide)) (fun _ => rfl) (by decide) (by decide) (by decide) ⟨by decide, by decide⟩ dX12_init_33 (fun H hk => ?_)
  refine q_putF C hin hk kcX12 6 (by decide) flX12_23 rfl rfl rfl rfl (Nat.le_of_ble_eq_true rfl) (fs' := [.int 0, .ref (b + (1 + 0)), .ref (b + (1 + 1)), .int 0, .int 0, .ref (b + (1 + 2)), .ref (b + (1 + 3)), .null, .null, .int 0, .int 0, .null, .int 0, .int 0, .int 0, .int 0, .null, .int 0, .null, .null, .int 0, .int 0, .null, .null, .null, .null, .int 0, .null, .null, .null]) rfl dX12_init_35 (fun H locs hk => ?_)
  refine lv_aload_n hx0 hb dX12_init_38 rfl (lv_at hl 0 rfl) ?_
  refine lv_sipush (v := (339 : Int32)) hx0 hb dX12_init_39 (by decide) ?_
  refine q_new (atype := .int) (t := 0) (ty := .int) (N := 339) (i := 4) C hk rfl rfl ac_int rfl ra_i (cmI (E := E) (b := b) (σ := ZM) (k := 5) (by decide)) (fun _ => rfl) (by decide) (by decide) (by decide) ⟨by decide, by decide⟩ dX12_init_42 (fun H hk => ?_)
  refine q_putF C hin hk kcX12 7 (by decide) flX12_26 rfl rfl rfl rfl (Nat.le_of_ble_eq_true rfl) (fs' := [.int 0, .ref (b + (1 + 0)), .ref (b + (1 + 1)), .int 0, .int 0, .ref (b + (1 + 2)), .ref (b + (1 + 3)), .ref (b + (1 + 4)), .null, .int 0, .int 0, .null, .int 0, .int 0, .int 0, .int 0, .null, .int 0, .null, .null, .int 0, .int 0, .null, .null, .null, .null, .int 0, .null, .null, .null]) rfl dX12_init_44 (fun H locs hk => ?_)
  refine lv_aload_n hx0 hb dX12_init_47 rfl (lv_at hl 0 rfl) ?_
  refine lv_sipush (v := (2712 : Int32)) hx0 hb dX12_init_48 (by decide) ?_
  refine q_new (atype := .int) (t := 0) (ty := .int) (N := 2712) (i := 5) C hk rfl rfl ac_int rfl ra_i (cmI (E := E) (b := b) (σ := ZM) (k := 6) (by decide)) (fun _ => rfl) (by decide) (by decide) (by decide) ⟨by decide, by decide⟩ dX12_init_51 (fun H hk => ?_)
  refine q_putF C hin hk kcX12 8 (by decide) flX12_29 rfl rfl rfl rfl (Nat.le_of_ble_eq_true rfl) (fs' := [.int 0, .ref (b + (1 + 0)), .ref (b + (1 + 1)), .int 0, .int 0, .ref (b + (1 + 2)), .ref (b + (1 + 3)), .ref (b + (1 + 4)), .ref (b + (1 + 5)), .int 0, .int 0, .null, .int 0, .int 0, .int 0, .int 0, .null, .int 0, .null, .null, .int 0, .int 0, .null, .null, .null, .null, .int 0, .null, .null, .null]) rfl dX12_init_53 (fun H locs hk => ?_)
  refine lv_aload_n hx0 hb dX12_init_56 rfl (lv_at hl 0 rfl) ?_
  refine lv_sipush (v := (600 : Int32)) hx0 hb dX12_init_57 (by decide) ?_
  refine q_new (atype := .byte) (t := 1) (ty := .byte) (N := 600) (i := 6) C hk rfl rfl ac_byte rfl ra_b (cmB (E := E) (b := b) (σ := ZM) (k := 7) (by decide)) (fun _ => rfl) (by decide) (by decide) (by decide) ⟨by decide, by decide⟩ dX12_init_60 (fun H hk => ?_)
  refine q_putF C hin hk kcX12 11 (by decide) flX12_32 rfl rfl rfl rfl (Nat.le_of_ble_eq_true rfl) (fs' := [.int 0, .ref (b + (1 + 0)), .ref (b + (1 + 1)), .int 0, .int 0, .ref (b + (1 + 2)), .ref (b + (1 + 3)), .ref (b + (1 + 4)), .ref (b + (1 + 5)), .int 0, .int 0, .ref (b + (1 + 6)), .int 0, .int 0, .int 0, .int 0, .null, .int 0, .null, .null, .int 0, .int 0, .null, .null, .null, .null, .int 0, .null, .null, .null]) rfl dX12_init_62 (fun H locs hk => ?_)
  refine lv_aload_n hx0 hb dX12_init_65 rfl (lv_at hl 0 rfl) ?_
  refine lv_sipush (v := (576 : Int32)) hx0 hb dX12_init_66 (by decide) ?_
  refine q_new (atype := .int) (t := 0) (ty := .int) (N := 576) (i := 7) C hk rfl rfl ac_int rfl ra_i (cmI (E := E) (b := b) (σ := ZM) (k := 8) (by decide)) (fun _ => rfl) (by decide) (by decide) (by decide) ⟨by decide, by decide⟩ dX12_init_69 (fun H hk => ?_)
  refine q_putF C hin hk kcX12 16 (by decide) flX12_36 rfl rfl rfl rfl (Nat.le_of_ble_eq_true rfl) (fs' := [.int 0, .ref (b + (1 + 0)), .ref (b + (1 + 1)), .int 0, .int 0, .ref (b + (1 + 2)), .ref (b + (1 + 3)), .ref (b + (1 + 4)), .ref (b + (1 + 5)), .int 0, .int 0, .ref (b + (1 + 6)), .int 0, .int 0, .int 0, .int 0, .ref (b + (1 + 7)), .int 0, .null, .null, .int 0, .int 0, .null, .null, .null, .null, .int 0, .null, .null, .null]) rfl dX12_init_71 (fun H locs hk => ?_)
  refine lv_aload_n hx0 hb dX12_init_74 rfl (lv_at hl 0 rfl) ?_
  refine lv_sipush (v := (400 : Int32)) hx0 hb dX12_init_75 (by decide) ?_
  refine q_new (atype := .byte) (t := 1) (ty := .byte) (N := 400) (i := 8) C hk rfl rfl ac_byte rfl ra_b (cmB (E := E) (b := b) (σ := ZM) (k := 9) (by decide)) (fun _ => rfl) (by decide) (by decide) (by decide) ⟨by decide, by decide⟩ dX12_init_78 (fun H hk => ?_)
  refine q_putF C hin hk kcX12 18 (by decide) flX12_39 rfl rfl rfl rfl (Nat.le_of_ble_eq_true rfl) (fs' := [.int 0, .ref (b + (1 + 0)), .ref (b + (1 + 1)), .int 0, .int 0, .ref (b + (1 + 2)), .ref (b + (1 + 3)), .ref (b + (1 + 4)), .ref (b + (1 + 5)), .int 0, .int 0, .ref (b + (1 + 6)), .int 0, .int 0, .int 0, .int 0, .ref (b + (1 + 7)), .int 0, .ref (b + (1 + 8)), .null, .int 0, .int 0, .null, .null, .null, .null, .int 0, .null, .null, .null]) rfl dX12_init_80 (fun H locs hk => ?_)
  refine lv_aload_n hx0 hb dX12_init_83 rfl (lv_at hl 0 rfl) ?_
  refine lv_sipush (v := (400 : Int32)) hx0 hb dX12_init_84 (by decide) ?_
  refine q_new (atype := .byte) (t := 1) (ty := .byte) (N := 400) (i := 9) C hk rfl rfl ac_byte rfl ra_b (cmB (E := E) (b := b) (σ := ZM) (k := 10) (by decide)) (fun _ => rfl) (by decide) (by decide) (by decide) ⟨by decide, by decide⟩ dX12_init_87 (fun H hk => ?_)
  refine q_putF C hin hk kcX12 19 (by decide) flX12_42 rfl rfl rfl rfl (Nat.le_of_ble_eq_true rfl) (fs' := [.int 0, .ref (b + (1 + 0)), .ref (b + (1 + 1)), .int 0, .int 0, .ref (b + (1 + 2)), .ref (b + (1 + 3)), .ref (b + (1 + 4)), .ref (b + (1 + 5)), .int 0, .int 0, .ref (b + (1 + 6)), .int 0, .int 0, .int 0, .int 0, .ref (b + (1 + 7)), .int 0, .ref (b + (1 + 8)), .ref (b + (1 + 9)), .int 0, .int 0, .null, .null, .null, .null, .int 0, .null, .null, .null]) rfl dX12_init_89 (fun H locs hk => ?_)
  refine lv_aload_n hx0 hb dX12_init_92 rfl (lv_at hl 0 rfl) ?_
  refine lv_bipush (v := (13 : Int32)) hx0 hb dX12_init_93 (by decide) ?_
  refine q_new (atype := .int) (t := 0) (ty := .int) (N := 13) (i := 10) C hk rfl rfl ac_int rfl ra_i (cmI (E := E) (b := b) (σ := ZM) (k := 11) (by decide)) (fun _ => rfl) (by decide) (by decide) (by decide) ⟨by decide, by decide⟩ dX12_init_95 (fun H hk => ?_)
  refine lv_dup hx0 hb dX12_init_97 rfl ?_
  refine lv_iconst (v := (0 : Int32)) hx0 hb dX12_init_98 (by decide) ?_
  refine lv_sipush (v := (1000 : Int32)) hx0 hb dX12_init_99 (by decide) ?_
  refine q_ias (x := 1000) (ix := 0) C hk (by decide) (by decide) dX12_init_102 (fun H locs hk => ?_)
  refine lv_dup hx0 hb dX12_init_103 rfl ?_
  refine lv_iconst (v := (1 : Int32)) hx0 hb dX12_init_104 (by decide) ?_
  refine lv_sipush (v := (900 : Int32)) hx0 hb dX12_init_105 (by decide) ?_
  refine q_ias (x := 900) (ix := 1) C hk (by decide) (by decide) dX12_init_108 (fun H locs hk => ?_)
  refine lv_dup hx0 hb dX12_init_109 rfl ?_
  refine lv_iconst (v := (2 : Int32)) hx0 hb dX12_init_110 (by decide) ?_
  refine lv_sipush (v := (500 : Int32)) hx0 hb dX12_init_111 (by decide) ?_
  refine q_ias (x := 500) (ix := 2) C hk (by decide) (by decide) dX12_init_114 (fun H locs hk => ?_)
  refine lv_dup hx0 hb dX12_init_115 rfl ?_
  refine lv_iconst (v := (3 : Int32)) hx0 hb dX12_init_116 (by decide) ?_
  refine lv_sipush (v := (400 : Int32)) hx0 hb dX12_init_117 (by decide) ?_
  refine q_ias (x := 400) (ix := 3) C hk (by decide) (by decide) dX12_init_120 (fun H locs hk => ?_)
  refine lv_dup hx0 hb dX12_init_121 rfl ?_
  refine lv_iconst (v := (4 : Int32)) hx0 hb dX12_init_122 (by decide) ?_
  refine lv_bipush (v := (100 : Int32)) hx0 hb dX12_init_123 (by decide) ?_
  refine q_ias (x := 100) (ix := 4) C hk (by decide) (by decide) dX12_init_125 (fun H locs hk => ?_)
  refine lv_dup hx0 hb dX12_init_126 rfl ?_
  refine lv_iconst (v := (5 : Int32)) hx0 hb dX12_init_127 (by decide) ?_
  refine lv_bipush (v := (90 : Int32)) hx0 hb dX12_init_128 (by decide) ?_
  refine q_ias (x := 90) (ix := 5) C hk (by decide) (by decide) dX12_init_130 (fun H locs hk => ?_)
  refine lv_dup hx0 hb dX12_init_131 rfl ?_
  refine lv_bipush (v := (6 : Int32)) hx0 hb dX12_init_132 (by decide) ?_
  refine lv_bipush (v := (50 : Int32)) hx0 hb dX12_init_134 (by decide) ?_
  refine q_ias (x := 50) (ix := 6) C hk (by decide) (by decide) dX12_init_136 (fun H locs hk => ?_)
  refine lv_dup hx0 hb dX12_init_137 rfl ?_
  refine lv_bipush (v := (7 : Int32)) hx0 hb dX12_init_138 (by decide) ?_
  refine lv_bipush (v := (40 : Int32)) hx0 hb dX12_init_140 (by decide) ?_
  refine q_ias (x := 40) (ix := 7) C hk (by decide) (by decide) dX12_init_142 (fun H locs hk => ?_)
  refine lv_dup hx0 hb dX12_init_143 rfl ?_
  refine lv_bipush (v := (8 : Int32)) hx0 hb dX12_init_144 (by decide) ?_
  refine lv_bipush (v := (10 : Int32)) hx0 hb dX12_init_146 (by decide) ?_
  refine q_ias (x := 10) (ix := 8) C hk (by decide) (by decide) dX12_init_148 (fun H locs hk => ?_)
  refine lv_dup hx0 hb dX12_init_149 rfl ?_
  refine lv_bipush (v := (9 : Int32)) hx0 hb dX12_init_150 (by decide) ?_
  refine lv_bipush (v := (9 : Int32)) hx0 hb dX12_init_152 (by decide) ?_
  refine q_ias (x := 9) (ix := 9) C hk (by decide) (by decide) dX12_init_154 (fun H locs hk => ?_)
  refine lv_dup hx0 hb dX12_init_155 rfl ?_
  refine lv_bipush (v := (10 : Int32)) hx0 hb dX12_init_156 (by decide) ?_
  refine lv_iconst (v := (5 : Int32)) hx0 hb dX12_init_158 (by decide) ?_
  refine q_ias (x := 5) (ix := 10) C hk (by decide) (by decide) dX12_init_159 (fun H locs hk => ?_)
  refine lv_dup hx0 hb dX12_init_160 rfl ?_
  refine lv_bipush (v := (11 : Int32)) hx0 hb dX12_init_161 (by decide) ?_
  refine lv_iconst (v := (4 : Int32)) hx0 hb dX12_init_163 (by decide) ?_
  refine q_ias (x := 4) (ix := 11) C hk (by decide) (by decide) dX12_init_164 (fun H locs hk => ?_)
  refine lv_dup hx0 hb dX12_init_165 rfl ?_
  refine lv_bipush (v := (12 : Int32)) hx0 hb dX12_init_166 (by decide) ?_
  refine lv_iconst (v := (1 : Int32)) hx0 hb dX12_init_168 (by decide) ?_
  refine q_ias (x := 1) (ix := 12) C hk (by decide) (by decide) dX12_init_169 (fun H locs hk => ?_)
  have hk : SM E b ZR _ 11 s H locs := hk
  refine q_putF C hin hk kcX12 22 (by decide) flX12_45 rfl rfl rfl rfl (Nat.le_of_ble_eq_true rfl) (fs' := [.int 0, .ref (b + (1 + 0)), .ref (b + (1 + 1)), .int 0, .int 0, .ref (b + (1 + 2)), .ref (b + (1 + 3)), .ref (b + (1 + 4)), .ref (b + (1 + 5)), .int 0, .int 0, .ref (b + (1 + 6)), .int 0, .int 0, .int 0, .int 0, .ref (b + (1 + 7)), .int 0, .ref (b + (1 + 8)), .ref (b + (1 + 9)), .int 0, .int 0, .ref (b + (1 + 10)), .null, .null, .null, .int 0, .null, .null, .null]) rfl dX12_init_170 (fun H locs hk => ?_)
  refine lv_aload_n hx0 hb dX12_init_173 rfl (lv_at hl 0 rfl) ?_
  refine lv_iconst (v := (2 : Int32)) hx0 hb dX12_init_174 (by decide) ?_
  refine q_new (atype := .int) (t := 0) (ty := .int) (N := 2) (i := 11) C hk rfl rfl ac_int rfl ra_i (cmI (E := E) (b := b) (σ := ZR) (k := 12) (by decide)) (fun j => ZR_o j (by decide)) (by decide) (by decide) (by decide) ⟨by decide, by decide⟩ dX12_init_175 (fun H hk => ?_)
  refine q_putF C hin hk kcX12 23 (by decide) flX12_48 rfl rfl rfl rfl (Nat.le_of_ble_eq_true rfl) (fs' := [.int 0, .ref (b + (1 + 0)), .ref (b + (1 + 1)), .int 0, .int 0, .ref (b + (1 + 2)), .ref (b + (1 + 3)), .ref (b + (1 + 4)), .ref (b + (1 + 5)), .int 0, .int 0, .ref (b + (1 + 6)), .int 0, .int 0, .int 0, .int 0, .ref (b + (1 + 7)), .int 0, .ref (b + (1 + 8)), .ref (b + (1 + 9)), .int 0, .int 0, .ref (b + (1 + 10)), .ref (b + (1 + 11)), .null, .null, .int 0, .null, .null, .null]) rfl dX12_init_177 (fun H locs hk => ?_)
  refine lv_aload_n hx0 hb dX12_init_180 rfl (lv_at hl 0 rfl) ?_
  refine lv_bipush (v := (60 : Int32)) hx0 hb dX12_init_181 (by decide) ?_
  refine q_new (atype := .int) (t := 0) (ty := .int) (N := 60) (i := 12) C hk rfl rfl ac_int rfl ra_i (cmI (E := E) (b := b) (σ := ZR) (k := 13) (by decide)) (fun j => ZR_o j (by decide)) (by decide) (by decide) (by decide) ⟨by decide, by decide⟩ dX12_init_183 (fun H hk => ?_)
  refine q_putF C hin hk kcX12 24 (by decide) flX12_51 rfl rfl rfl rfl (Nat.le_of_ble_eq_true rfl) (fs' := [.int 0, .ref (b + (1 + 0)), .ref (b + (1 + 1)), .int 0, .int 0, .ref (b + (1 + 2)), .ref (b + (1 + 3)), .ref (b + (1 + 4)), .ref (b + (1 + 5)), .int 0, .int 0, .ref (b + (1 + 6)), .int 0, .int 0, .int 0, .int 0, .ref (b + (1 + 7)), .int 0, .ref (b + (1 + 8)), .ref (b + (1 + 9)), .int 0, .int 0, .ref (b + (1 + 10)), .ref (b + (1 + 11)), .ref (b + (1 + 12)), .null, .int 0, .null, .null, .null]) rfl dX12_init_185 (fun H locs hk => ?_)
  refine lv_aload_n hx0 hb dX12_init_188 rfl (lv_at hl 0 rfl) ?_
  refine lv_bipush (v := (60 : Int32)) hx0 hb dX12_init_189 (by decide) ?_
  refine q_new (atype := .int) (t := 0) (ty := .int) (N := 60) (i := 13) C hk rfl rfl ac_int rfl ra_i (cmI (E := E) (b := b) (σ := ZR) (k := 14) (by decide)) (fun j => ZR_o j (by decide)) (by decide) (by decide) (by decide) ⟨by decide, by decide⟩ dX12_init_191 (fun H hk => ?_)
  refine q_putF C hin hk kcX12 25 (by decide) flX12_54 rfl rfl rfl rfl (Nat.le_of_ble_eq_true rfl) (fs' := [.int 0, .ref (b + (1 + 0)), .ref (b + (1 + 1)), .int 0, .int 0, .ref (b + (1 + 2)), .ref (b + (1 + 3)), .ref (b + (1 + 4)), .ref (b + (1 + 5)), .int 0, .int 0, .ref (b + (1 + 6)), .int 0, .int 0, .int 0, .int 0, .ref (b + (1 + 7)), .int 0, .ref (b + (1 + 8)), .ref (b + (1 + 9)), .int 0, .int 0, .ref (b + (1 + 10)), .ref (b + (1 + 11)), .ref (b + (1 + 12)), .ref (b + (1 + 13)), .int 0, .null, .null, .null]) rfl dX12_init_193 (fun H locs hk => ?_)
  refine lv_aload_n hx0 hb dX12_init_196 rfl (lv_at hl 0 rfl) ?_
  refine lv_bipush (v := (60 : Int32)) hx0 hb dX12_init_197 (by decide) ?_
  refine q_new (atype := .int) (t := 0) (ty := .int) (N := 60) (i := 14) C hk rfl rfl ac_int rfl ra_i (cmI (E := E) (b := b) (σ := ZR) (k := 15) (by decide)) (fun j => ZR_o j (by decide)) (by decide) (by decide) (by decide) ⟨by decide, by decide⟩ dX12_init_199 (fun H hk => ?_)
  refine q_putF C hin hk kcX12 27 (by decide) flX12_57 rfl rfl rfl rfl (Nat.le_of_ble_eq_true rfl) (fs' := [.int 0, .ref (b + (1 + 0)), .ref (b + (1 + 1)), .int 0, .int 0, .ref (b + (1 + 2)), .ref (b + (1 + 3)), .ref (b + (1 + 4)), .ref (b + (1 + 5)), .int 0, .int 0, .ref (b + (1 + 6)), .int 0, .int 0, .int 0, .int 0, .ref (b + (1 + 7)), .int 0, .ref (b + (1 + 8)), .ref (b + (1 + 9)), .int 0, .int 0, .ref (b + (1 + 10)), .ref (b + (1 + 11)), .ref (b + (1 + 12)), .ref (b + (1 + 13)), .int 0, .ref (b + (1 + 14)), .null, .null]) rfl dX12_init_201 (fun H locs hk => ?_)
  refine lv_aload_n hx0 hb dX12_init_204 rfl (lv_at hl 0 rfl) ?_
  refine lv_sipush (v := (400 : Int32)) hx0 hb dX12_init_205 (by decide) ?_
  refine q_new (atype := .byte) (t := 1) (ty := .byte) (N := 400) (i := 15) C hk rfl rfl ac_byte rfl ra_b (cmB (E := E) (b := b) (σ := ZR) (k := 16) (by decide)) (fun j => ZR_o j (by decide)) (by decide) (by decide) (by decide) ⟨by decide, by decide⟩ dX12_init_208 (fun H hk => ?_)
  refine q_putF C hin hk kcX12 28 (by decide) flX12_60 rfl rfl rfl rfl (Nat.le_of_ble_eq_true rfl) (fs' := [.int 0, .ref (b + (1 + 0)), .ref (b + (1 + 1)), .int 0, .int 0, .ref (b + (1 + 2)), .ref (b + (1 + 3)), .ref (b + (1 + 4)), .ref (b + (1 + 5)), .int 0, .int 0, .ref (b + (1 + 6)), .int 0, .int 0, .int 0, .int 0, .ref (b + (1 + 7)), .int 0, .ref (b + (1 + 8)), .ref (b + (1 + 9)), .int 0, .int 0, .ref (b + (1 + 10)), .ref (b + (1 + 11)), .ref (b + (1 + 12)), .ref (b + (1 + 13)), .int 0, .ref (b + (1 + 14)), .ref (b + (1 + 15)), .null]) rfl dX12_init_210 (fun H locs hk => ?_)
  refine lv_aload_n hx0 hb dX12_init_213 rfl (lv_at hl 0 rfl) ?_
  refine lv_bipush (v := (60 : Int32)) hx0 hb dX12_init_214 (by decide) ?_
  refine q_new (atype := .boolean) (t := 2) (ty := .boolean) (N := 60) (i := 16) C hk rfl rfl ac_boolean rfl ra_z (cmZ (E := E) (b := b) (σ := ZR) (k := 17) (by decide)) (fun j => ZR_o j (by decide)) (by decide) (by decide) (by decide) ⟨by decide, by decide⟩ dX12_init_216 (fun H hk => ?_)
  refine q_putF C hin hk kcX12 29 (by decide) flX12_63 rfl rfl rfl rfl (Nat.le_of_ble_eq_true rfl) (fs' := [.int 0, .ref (b + (1 + 0)), .ref (b + (1 + 1)), .int 0, .int 0, .ref (b + (1 + 2)), .ref (b + (1 + 3)), .ref (b + (1 + 4)), .ref (b + (1 + 5)), .int 0, .int 0, .ref (b + (1 + 6)), .int 0, .int 0, .int 0, .int 0, .ref (b + (1 + 7)), .int 0, .ref (b + (1 + 8)), .ref (b + (1 + 9)), .int 0, .int 0, .ref (b + (1 + 10)), .ref (b + (1 + 11)), .ref (b + (1 + 12)), .ref (b + (1 + 13)), .int 0, .ref (b + (1 + 14)), .ref (b + (1 + 15)), .ref (b + (1 + 16))]) rfl dX12_init_218 (fun H locs hk => ?_)
  obtain ⟨hW, hS⟩ := sm_wd hk hsz
  refine lv_aload_n hx0 hb dX12_init_221 rfl (lv_at hl 0 rfl) ?_
  refine gtX12_2 C hW flX12_17 dX12_init_222 ?_
  refine lv_iconst (v := (0 : Int32)) hx0 hb dX12_init_225 (by decide) ?_
  refine lv_iconst (v := (2 : Int32)) hx0 hb dX12_init_226 (by decide) ?_
  refine saIm (k := 2) (i := 0) (v := 2) C hW hS (by decide) (by decide) dX12_init_227 (fun H locs hW hS => ?_)
  refine lv_aload_n hx0 hb dX12_init_228 rfl (lv_at hl 0 rfl) ?_
  refine lv_iconst (v := (1 : Int32)) hx0 hb dX12_init_229 (by decide) ?_
  refine ptX12_4 (v := 1) C hW hS flX12_67 dX12_init_230 (fun H locs hW hS => ?_)
  refine lv_aload_n hx0 hb dX12_init_233 rfl (lv_at hl 0 rfl) ?_
  refine w_callV (L := (LM E b)) (k := 0) (As := []) (rest := []) C hW hS (show 0 < 18 by decide) cm0 kcX12 (mX12_begins _ σ1 hσ) cwX12_begins cvX12_begins rfl mlX12_70 ⟨by decide, by decide⟩ rfl hl.1 (Nat.le_of_ble_eq_true rfl) ⟨by decide, by decide⟩ dX12_init_234 rfl (fun H1 locs1 hW1 hS1 => ?_)
  exact W.vret hx0 hb C.2.2.2.2.2.2.1 (fun t ht _ => ⟨rfl, by rw [ht]; exact wd_size hW1, by rw [ht]; exact hW1, fun q hq => by rw [ht]; exact hS1.2.1 q (by omega) (fun z => absurd z.1 (Nat.not_le.mpr hq))⟩) (fun z hz => (hS1.2.2 z hz).1) dX12_init_237 (hlocks := C.2.2.2.2.2.1)
