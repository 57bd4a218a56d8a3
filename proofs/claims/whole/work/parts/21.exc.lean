/-! METHODS THAT THROW -/
abbrev Rx : Type := (Nat ⊕ Int32) × Mem
def exn : Nat → String
  | 0 => "java/lang/IllegalStateException"
  | 1 => "java/lang/IllegalArgumentException"
  | 2 => "java/lang/IndexOutOfBoundsException"
  | _ => "java/util/NoSuchElementException"
def exnN : List String := ["java/lang/RuntimeException", "java/lang/Exception"]
theorem xat0 : ∀ w ∈ vx_atS RX11 115 "java/lang/IllegalStateException" exnN, w ∈ lw_tbl ∧ (goodWord w = true ∨ nword w = true) := by decide +kernel
theorem xgd0 : ∀ w ∈ Cond.classLink RX11 111 "java/lang/IllegalStateException" :: Cond.initialized "java/lang/IllegalStateException" :: vx_atS RX11 115 "java/lang/IllegalStateException" exnN, vx_ot w = true := by decide +kernel
theorem xcl0 : Cond.classLink RX11 111 "java/lang/IllegalStateException" ∈ tb := tb_i 979 (by decide +kernel) (by decide +kernel)
theorem xin0 : Cond.initialized "java/lang/IllegalStateException" ∈ tb := tb_i 135 (by decide +kernel) (by decide +kernel)
theorem xat1 : ∀ w ∈ vx_atS RX11 125 "java/lang/IllegalArgumentException" exnN, w ∈ lw_tbl ∧ (goodWord w = true ∨ nword w = true) := by decide +kernel
theorem xgd1 : ∀ w ∈ Cond.classLink RX11 121 "java/lang/IllegalArgumentException" :: Cond.initialized "java/lang/IllegalArgumentException" :: vx_atS RX11 125 "java/lang/IllegalArgumentException" exnN, vx_ot w = true := by decide +kernel
theorem xcl1 : Cond.classLink RX11 121 "java/lang/IllegalArgumentException" ∈ tb := tb_i 1060 (by decide +kernel) (by decide +kernel)
theorem xin1 : Cond.initialized "java/lang/IllegalArgumentException" ∈ tb := tb_i 136 (by decide +kernel) (by decide +kernel)
theorem xat2 : ∀ w ∈ vx_atS RX11 253 "java/lang/IndexOutOfBoundsException" exnN, w ∈ lw_tbl ∧ (goodWord w = true ∨ nword w = true) := by decide +kernel
theorem xgd2 : ∀ w ∈ Cond.classLink RX11 249 "java/lang/IndexOutOfBoundsException" :: Cond.initialized "java/lang/IndexOutOfBoundsException" :: vx_atS RX11 253 "java/lang/IndexOutOfBoundsException" exnN, vx_ot w = true := by decide +kernel
theorem xcl2 : Cond.classLink RX11 249 "java/lang/IndexOutOfBoundsException" ∈ tb := tb_i 1102 (by decide +kernel) (by decide +kernel)
theorem xin2 : Cond.initialized "java/lang/IndexOutOfBoundsException" ∈ tb := tb_i 143 (by decide +kernel) (by decide +kernel)
theorem xcl3 : Cond.classLink RX11 438 "java/util/NoSuchElementException" ∈ tb := tb_i 1547 (by decide +kernel) (by decide +kernel)
theorem xin3 : Cond.initialized "java/util/NoSuchElementException" ∈ tb := tb_i 145 (by decide +kernel) (by decide +kernel)
def rvV : Int32 → Option Value := fun _ => none
def rvI : Int32 → Option Value := fun v => some (.int v)
def Qx (E : Ev) (L : Lay) (rv : Int32 → Option Value) (r : Rx) : Array Value → State → Outcome → State → Prop := fun _ st o t => ∃ v, r.1 = .inr v ∧ o = .returned (rv v) ∧ Wd E L r.2 t.heap ∧ va_F (La L) st t
def Xx (E : Ev) (L : Lay) (r : Rx) : String → State → State → Prop := fun cn st t => ∃ n, r.1 = .inl n ∧ cn = exn n ∧ Wd E L r.2 t.heap ∧ va_F (La L) st t
section RowsX
variable {p : Program} {l : Launch} {e : Env} {R : Room} {s : State} {m : MethodId} {args : Array Value} {below : List Frame} {meth : Method} {c : Code} {H : Heap} {locs : List Loc} {cells slots mc ms : Nat} {Q : State → Prop}
variable {E : Ev} {L : Lay} {σ : Mem} {cc : ByteArray} {nL : Nat} {own : String} {rt : Option FieldType} {pc : Nat} {ls : Array Slot} {rest : List Value}
theorem Wd.kept {H1 : Heap} (h : Wd E L σ H) (hq : ∀ q : Nat, q < H.size → H1[q]? = H[q]?) : Wd E L σ H1 := ⟨h.1.kept (fun k q hk => hq q.1 (h.1 k q hk).lt), h.2⟩
theorem xU (C : Cx p l s m args meth c E cc nL own rt) (hL : E.2.1.size ≤ L.2.1) : vx_Zq Bundle.tN "UNASSIGNED_STACK" Bundle.steD (La L) s s.heap ∧ vx_Zq Bundle.tN "SUPPRESSED_SENTINEL" Bundle.listD (La L) s s.heap := by
  obtain ⟨hx, hb, hml, hown, hts, hlocks, hr, ⟨hK, hX⟩, hO⟩ := C
  exact ⟨(hX.2.2.1.kept (ao_keep hO)).narrow (ao_nar hL), (hX.2.2.2.1.kept (ao_keep hO)).narrow (ao_nar hL)⟩
theorem xat (C : Cx p l s m args meth c E cc nL own rt) {ws : List Cond} (h : ∀ w ∈ ws, w ∈ lw_tbl ∧ (goodWord w = true ∨ nword w = true)) : ∀ w ∈ ws, w.before args s = true := by
  obtain ⟨hx, hb, hml, hown, hts, hlocks, hr, ⟨hK, hX⟩, hO⟩ := C
  intro w hw
  obtain ⟨h1, h2 | h2⟩ := h w hw
  · exact hts w (List.mem_filter.mpr ⟨h1, h2⟩)
  · have h3 := hX.1.1 w h1 h2
    refine va_Nw.use ?_ h3
    cases w <;> first | rfl | (simp [nword] at h2; done)
theorem x_out (C : Cx p l s m args meth c E cc nL own rt) (hT : ∀ x ∈ c.exceptionTable.toList, False) {n : Nat} {q : Addr} {ce : Cell} {Qc : Array Value → State → Outcome → State → Prop} (hW : Wd E L σ H) (hS : va_S (La L) s.heap H locs) (hq : H[q]? = some ce) (hv : ce.vm = .none) (hcl : s.vm.findClass (exn n) = some ce.cls) (hc : cells ≤ mc) (hs : slots ≤ ms) :
    vx_W p l e R s m args below meth c H locs cells slots (vx_MQ below Qc (Xx E L (.inl n, σ)) args s mc ms (La L)) (F0 m pc ls rest) q := by
  obtain ⟨hx, hb, hml, hown, hts, hlocks, hr, ⟨hK, hX⟩, hO⟩ := C
  exact vx_out (E := exn n) (fun x hx => (hT x hx).elim) hlocks hq hv hcl (fun t ht _ => ⟨n, rfl, rfl, by rw [ht]; exact hW, hS.F ht⟩) hS.2.2 hc hs
theorem x_iret (C : Cx p l s m args meth c E cc nL own (some .int)) {XC : String → State → State → Prop} (hW : Wd E L σ H) (hS : va_S (La L) s.heap H locs) {v : Int32} (hc : cells ≤ mc) (hs : slots ≤ ms) (hdg : decode cc pc = .ok (.ireturn, 1)) : W p l e R s m args below meth c H locs cells slots (vx_MQ below (Qx E L rvI (.inr v, σ)) XC args s mc ms (La L)) (F0 m pc ls [.int v]) := by
  obtain ⟨hx, hb, hml, hown, hts, hlocks, hr, ⟨hK, hX⟩, hO⟩ := C
  exact vx_ret (W.widen (k := mc) (n := ms) hc hs (W.iret hx hb hr (fun t ht hW2 => ⟨v, rfl, rfl, by rw [ht]; exact hW, hS.F ht⟩) hS.2.2 hdg))
theorem x_vret (C : Cx p l s m args meth c E cc nL own none) {XC : String → State → State → Prop} (hW : Wd E L σ H) (hS : va_S (La L) s.heap H locs) (hc : cells ≤ mc) (hs : slots ≤ ms) (hdg : decode cc pc = .ok (.return_, 1)) : W p l e R s m args below meth c H locs cells slots (vx_MQ below (Qx E L rvV (.inr 0, σ)) XC args s mc ms (La L)) (F0 m pc ls []) := by
  obtain ⟨hx, hb, hml, hown, hts, hlocks, hr, ⟨hK, hX⟩, hO⟩ := C
  exact vx_ret (W.widen (k := mc) (n := ms) hc hs (W.vret hx hb hr (fun t ht hW2 => ⟨0, rfl, rfl, by rw [ht]; exact hW, hS.F ht⟩) hS.2.2 hdg))
/-- 'throw new E("text")' -/
theorem x_throw (C : Cx p l s m args meth c E cc nL RX11 rt) (hT : ∀ x ∈ c.exceptionTable.toList, False) {n ik ic is si : Nat} {tx : String} {Qc : Array Value → State → Outcome → State → Prop} (hcls : Bundle.fit (exn n) = true) (hat : ∀ w ∈ vx_atS RX11 ic (exn n) exnN, w ∈ lw_tbl ∧ (goodWord w = true ∨ nword w = true)) (hgd : ∀ w ∈ Cond.classLink RX11 ik (exn n) :: Cond.initialized (exn n) :: vx_atS RX11 ic (exn n) exnN, vx_ot w = true) (hk : Cond.classLink RX11 ik (exn n) ∈ tb) (hi : Cond.initialized (exn n) ∈ tb) (hsi : strL[si]? = some (RX11, is, tx))
    (hW : Wd E L σ H) (hS : va_S (La L) s.heap H locs) (hls : ls.size = nL) (hR : 5 < R.frames ∧ (rest.map fun v => v.category).sum + 82 ≤ R.locals) (hR2 : cells + 1 ≤ R.cells ∧ slots + 6 ≤ R.slots) (hc : cells + 1 ≤ mc) (hs : slots + 6 ≤ ms)
    (d0 : decode cc pc = .ok (.new ik, 3)) (d3 : decode cc (pc + 3) = .ok (.dup, 1)) (d4 : decode cc (pc + 4) = .ok (.ldc is, 2)) (d6 : decode cc (pc + 6) = .ok (.invokespecial ic, 3)) (d9 : decode cc (pc + 9) = .ok (.athrow, 1)) : W p l e R s m args below meth c H locs cells slots (vx_MQ below Qc (Xx E L (.inl n, σ)) args s mc ms (La L)) (F0 m pc ls rest) := by
  obtain ⟨hx, hb, hml, hown, hts, hlocks, hr, ⟨hK, hX⟩, hO⟩ := id C
  obtain ⟨u1, u2⟩ := xU C hW.2
  refine vx_throwS (names := exnN) hx hb hX.2.1 hown hcls (by decide +kernel) (hts _ hk) (hts _ hi) (hX.2.2.2.2.2.1 si _ hsi) (xat C hat) hgd u1 u2 hS (hls.trans hml.symm) d0 d3 d4 d6 d9 (fun x hx => (hT x hx).elim) hR.1 hR.2 hR2.1 hR2.2 hlocks (fun t ha hz hk2 => ⟨n, rfl, rfl, hW.kept hk2, Nat.le_trans hS.1 hz, fun q h1 h2 => ?_⟩) hS.2.2 hc hs
  rw [hk2 q (Nat.lt_of_lt_of_le h1 hS.1)]
  exact hS.2.1 q h1 h2
theorem x_throwW (C : Cx p l s m args meth c E cc nL RX11 rt) (hT : ∀ x ∈ c.exceptionTable.toList, False) {n ik ic is si : Nat} {tx : String} {Qc : Array Value → State → Outcome → State → Prop} (hcls : Bundle.fit (exn n) = true) (hat : ∀ w ∈ vx_atS RX11 ic (exn n) exnN, w ∈ lw_tbl ∧ (goodWord w = true ∨ nword w = true)) (hgd : ∀ w ∈ Cond.classLink RX11 ik (exn n) :: Cond.initialized (exn n) :: vx_atS RX11 ic (exn n) exnN, vx_ot w = true) (hk : Cond.classLink RX11 ik (exn n) ∈ tb) (hi : Cond.initialized (exn n) ∈ tb) (hsi : strL[si]? = some (RX11, is, tx))
    (hW : Wd E L σ H) (hS : va_S (La L) s.heap H locs) (hls : ls.size = nL) (hR : 5 < R.frames ∧ (rest.map fun v => v.category).sum + 82 ≤ R.locals) (hR2 : cells + 1 ≤ R.cells ∧ slots + 6 ≤ R.slots) (hc : cells + 1 ≤ mc) (hs : slots + 6 ≤ ms)
    (d0 : decode cc pc = .ok (.new ik, 3)) (d3 : decode cc (pc + 3) = .ok (.dup, 1)) (d4 : decode cc (pc + 4) = .ok (.ldc_w is, 3)) (d6 : decode cc (pc + 7) = .ok (.invokespecial ic, 3)) (d9 : decode cc (pc + 10) = .ok (.athrow, 1)) : W p l e R s m args below meth c H locs cells slots (vx_MQ below Qc (Xx E L (.inl n, σ)) args s mc ms (La L)) (F0 m pc ls rest) := by
  obtain ⟨hx, hb, hml, hown, hts, hlocks, hr, ⟨hK, hX⟩, hO⟩ := id C
  obtain ⟨u1, u2⟩ := xU C hW.2
  refine vx_throwSW (names := exnN) hx hb hX.2.1 hown hcls (by decide +kernel) (hts _ hk) (hts _ hi) (hX.2.2.2.2.2.1 si _ hsi) (xat C hat) hgd u1 u2 hS (hls.trans hml.symm) d0 d3 d4 d6 d9 (fun x hx => (hT x hx).elim) hR.1 hR.2 hR2.1 hR2.2 hlocks (fun t ha hz hk2 => ⟨n, rfl, rfl, hW.kept hk2, Nat.le_trans hS.1 hz, fun q h1 h2 => ?_⟩) hS.2.2 hc hs
  rw [hk2 q (Nat.lt_of_lt_of_le h1 hS.1)]
  exact hS.2.1 q h1 h2
/-- what both ways of a call give -/
theorem x_go {rv : Int32 → Option Value} {r : Rx} {g : JFrame} {st : List Value} {a : Array Value} (hS : va_S (La L) s.heap H locs) (hrun : vx_Run p l e R s m args below meth c H locs cells slots mc ms (F0 m pc ls st) rest (Qx E L rv r a) (Xx E L r) (La L))
    (kk : ∀ v, r.1 = .inr v → ∀ (H1 : Heap) (locs1 : List Loc), Wd E L r.2 H1 → va_S (La L) s.heap H1 locs1 → W p l e R s m args below meth c H1 locs1 (cells + mc) (slots + ms) Q (F0 m (pc + 3) ls ((rv v).toList ++ rest)))
    (kx : ∀ n, r.1 = .inl n → ∀ (H1 : Heap) (locs1 : List Loc) (q : Addr) (ce : Cell), Wd E L r.2 H1 → va_S (La L) s.heap H1 locs1 → H1[q]? = some ce → ce.vm = .none → s.vm.findClass (exn n) = some ce.cls → vx_W p l e R s m args below meth c H1 locs1 (cells + mc) (slots + ms) Q (F0 m pc ls rest) q) : W p l e R s m args below meth c H locs cells slots Q (F0 m pc ls st) := by
  intro Tt hT X
  rcases hrun Tt hT X with ⟨v, st₀, t, T', L', h0, X', hL, e1, e2, ⟨w, hr1, hv, hw, hz, hk2⟩, stp⟩ | ⟨q, st₀, t, T', L', En, ce, h0, X', hL, e1, e2, ⟨n, hr1, hn, hw, hz, hk2⟩, hce, hcv, hcl, stp⟩
  · cases hv
    rw [h0] at hz hk2
    obtain ⟨t2, a1, b1⟩ := kk w hr1 T'.heap (locs ++ L') (by rw [e1]; exact hw) ⟨Nat.le_trans hS.1 (by rw [e1]; exact hz), fun q h1 h2 => by rw [e1, hk2 q (Nat.lt_of_lt_of_le h1 hS.1) h2]; exact hS.2.1 q h1 h2, fun q hq => by
        rcases List.mem_append.mp hq with h | h
        · exact hS.2.2 q h
        · exact hL q h⟩ T' rfl X'
    exact ⟨t2, stp t2 a1, b1⟩
  · rw [h0] at hz hk2
    subst hn
    obtain ⟨t2, a1, b1⟩ := kx n hr1 T'.heap (locs ++ L') q ce (by rw [e1]; exact hw) ⟨Nat.le_trans hS.1 (by rw [e1]; exact hz), fun q h1 h2 => by rw [e1, hk2 q (Nat.lt_of_lt_of_le h1 hS.1) h2]; exact hS.2.1 q h1 h2, fun q hq => by
        rcases List.mem_append.mp hq with h | h
        · exact hS.2.2 q h
        · exact hL q h⟩ (by rw [e1]; exact hce) hcv hcl T' rfl X'
    exact ⟨t2, stp.trans a1, b1⟩
theorem x_callV (C : Cx p l s m args meth c E cc nL own rt) (hW : Wd E L σ H) (hS : va_S (La L) s.heap H locs) {k : Nat} (hk : k < L.1) {ci : Nat} {fs : List Value} (hc : L.2.2 σ k = .inr (ci, fs)) {Cn : String} {T : u_T} {N : Nat} {ty : Nat → FieldType} (kc : KC ci Cn T N ty)
    {y : MethodName} {cb : ByteArray} {ml n : Nat} {ry : Option FieldType} {fr lo : Nat} {As : List Value} {rv : Int32 → Option Value} {r : Rx} (hM : vx_Met l y (tw y cb ml ry) { frames := fr, cells := mc, slots := ms, locals := lo } (va_Pc (.ref (L.2.1 + k) :: As) (Pr l E L σ)) (Qx E L rv r) (Xx E L r) mc ms (La L)) (cw : CW y cb ml ry n) (cv : CV y) (hCn : y.cls = Cn) {index : Nat} (hlk : Cond.methodLink own index y ∈ tb) (hR : fr + 1 ≤ R.frames ∧ 8 + (ml + 11) + lo ≤ R.locals)
    (hn : As.length = n) (hls : ls.size = nL) (hsum : (rest.map fun v => v.category).sum ≤ 8) (hf : cells + mc ≤ R.cells ∧ slots + ms ≤ R.slots) (hdg : decode cc pc = .ok (.invokevirtual index, 3)) {st : List Value} (hst : st = As.reverse ++ .ref (L.2.1 + k) :: rest)
    (kx : ∀ n, r.1 = .inl n → ∀ (H1 : Heap) (locs1 : List Loc) (q : Addr) (ce : Cell), Wd E L r.2 H1 → va_S (La L) s.heap H1 locs1 → H1[q]? = some ce → ce.vm = .none → s.vm.findClass (exn n) = some ce.cls → vx_W p l e R s m args below meth c H1 locs1 (cells + mc) (slots + ms) Q (F0 m pc ls rest) q)
    (kk : ∀ v, r.1 = .inr v → ∀ (H1 : Heap) (locs1 : List Loc), Wd E L r.2 H1 → va_S (La L) s.heap H1 locs1 → W p l e R s m args below meth c H1 locs1 (cells + mc) (slots + ms) Q (F0 m (pc + 3) ls ((rv v).toList ++ rest))) : W p l e R s m args below meth c H locs cells slots Q (F0 m pc ls st) := by
  obtain ⟨hx, hb, hml, hown, hts, hlocks, hr, ⟨hK, hX⟩, hO⟩ := C
  obtain ⟨w1, w2, w3, w4⟩ := cw
  obtain ⟨k1, k2, k3, k4⟩ := kc
  subst hCn
  have hO2 : Od E H := hO.go hW.2 hS
  have cb0 : CallB R s args own index y cb ml ry (tw y cb ml ry) { frames := fr, cells := mc, slots := ms, locals := lo } mc ms n := callB_of n hts (tw_good w1) rfl rfl rfl (hts _ w2) (hts _ hlk) ⟨w3.1, w3.2, w4⟩ hR
  exact x_go (g := F0 m pc ls st) hS (vx_runV (p := p) (e := e) (below := below) (meth := meth) (H := H) (locs := locs) (cells := cells) (slots := slots) (g := F0 m pc ls st) (rest := rest) ⟨hx, hb, hml, hown, hts⟩ hM ⟨cb0, hts _ cv.1, hts _ cv.2⟩ ⟨Pr.blind _, va_recv hK hW.1 (ci := ci) (q0 := k) k1 (by rw [wl_at hk, hc]), fun U hU hWm => ⟨rfl, Kn.warm hWm ⟨hK, hX⟩, by rw [hU]; exact hW, by rw [hU]; exact hO2⟩⟩ rfl hn hls hst (lv_room hsum) hdg hf) kk kx
theorem x_callS (C : Cx p l s m args meth c E cc nL own rt) (hW : Wd E L σ H) (hS : va_S (La L) s.heap H locs)
    {y : MethodName} {cb : ByteArray} {ml n : Nat} {ry : Option FieldType} {fr lo : Nat} {As : List Value} {rv : Int32 → Option Value} {r : Rx} (hM : vx_Met l y (tw y cb ml ry) { frames := fr, cells := mc, slots := ms, locals := lo } (va_Pc As (Pr l E L σ)) (Qx E L rv r) (Xx E L r) mc ms (La L)) (cw : CW y cb ml ry n) (cs : Cond.static y ∈ tb) {index : Nat} (hlk : Cond.methodLink own index y ∈ tb) (hR : fr + 1 ≤ R.frames ∧ 8 + (ml + 11) + lo ≤ R.locals)
    (hn : As.length = n) (hls : ls.size = nL) (hsum : (rest.map fun v => v.category).sum ≤ 8) (hf : cells + mc ≤ R.cells ∧ slots + ms ≤ R.slots) (hdg : decode cc pc = .ok (.invokestatic index, 3)) {st : List Value} (hst : st = As.reverse ++ rest)
    (kx : ∀ n, r.1 = .inl n → ∀ (H1 : Heap) (locs1 : List Loc) (q : Addr) (ce : Cell), Wd E L r.2 H1 → va_S (La L) s.heap H1 locs1 → H1[q]? = some ce → ce.vm = .none → s.vm.findClass (exn n) = some ce.cls → vx_W p l e R s m args below meth c H1 locs1 (cells + mc) (slots + ms) Q (F0 m pc ls rest) q)
    (kk : ∀ v, r.1 = .inr v → ∀ (H1 : Heap) (locs1 : List Loc), Wd E L r.2 H1 → va_S (La L) s.heap H1 locs1 → W p l e R s m args below meth c H1 locs1 (cells + mc) (slots + ms) Q (F0 m (pc + 3) ls ((rv v).toList ++ rest))) : W p l e R s m args below meth c H locs cells slots Q (F0 m pc ls st) := by
  obtain ⟨hx, hb, hml, hown, hts, hlocks, hr, ⟨hK, hX⟩, hO⟩ := C
  obtain ⟨w1, w2, w3, w4⟩ := cw
  have hO2 : Od E H := hO.go hW.2 hS
  have cb0 : CallB R s args own index y cb ml ry (tw y cb ml ry) { frames := fr, cells := mc, slots := ms, locals := lo } mc ms n := callB_of n hts (tw_good w1) rfl rfl rfl (hts _ w2) (hts _ hlk) ⟨w3.1, w3.2, w4⟩ hR
  exact x_go (g := F0 m pc ls st) hS (vx_runS (p := p) (e := e) (below := below) (meth := meth) (H := H) (locs := locs) (cells := cells) (slots := slots) (g := F0 m pc ls st) (rest := rest) ⟨hx, hb, hml, hown, hts⟩ hM ⟨cb0, hts _ cs⟩ ⟨Pr.blind _, fun U hU hWm => ⟨rfl, Kn.warm hWm ⟨hK, hX⟩, by rw [hU]; exact hW, by rw [hU]; exact hO2⟩⟩ rfl hn hls hst (lv_room hsum) hdg hf) kk kx
end RowsX
/-- a contract of a method that throws, out of the walk of its body -/
theorem cx_of {l : Launch} {y : MethodName} {cc : ByteArray} {n : Nat} {r : Option FieldType} {rm : Room} {av : List Value} {E : Ev} {L : Lay} {σ : Mem} {Qc : Array Value → State → Outcome → State → Prop} {XC : String → State → State → Prop} {mc ms : Nat} (hy : plainName y.cls = true) (hlen : (lg_sl av).length ≤ n)
    (body : ∀ p e s m below meth c, Cx p l s m av.toArray meth c E cc n y.cls r → (∀ x ∈ c.exceptionTable.toList, False) → Wd E L σ s.heap → va_S (La L) s.heap s.heap [] → ∀ ls, lv_has ls n (lv_args 0 av) → W p l e rm s m av.toArray below meth c s.heap [] 0 0 (vx_MQ below Qc XC av.toArray s mc ms (La L)) (F0 m 0 ls [])) : vx_Met l y (tw y cc n r) rm (va_Pc av (Pr l E L σ)) Qc XC mc ms (La L) := by
  refine vx_ofW (cc := cc) (maxL := n) (ret := r) hy rfl ?_
  intro p e s m args below meth c s₁ B hml hT hv
  obtain ⟨rfl, hK, hW, hO⟩ := hv
  have hts := atoms_spec (ws := tw y cc n r) B.pre
  have hown : s.vm.findClass y.cls = some m.cls := findClass_of_methodNamed B.named
  have hl := lv_entry av (n := n) hlen
  rw [lg_entry_eq]
  exact body p e s m below meth c ⟨B.exec, B.bytes, hml, hown, fun w hw => hts w (List.mem_cons_of_mem _ hw), B.notSynchronized, B.returns, hK, hO⟩ hT hW va_S.rf _ hl
