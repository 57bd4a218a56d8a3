/-! THE LAW'S SMALL METHODS: a call of the class, its answer in a row of one long, its exceptions caught -/
/-- the row of one long -/
def Ow (E : Ev) (o : Nat) (w : Int64) (H : Heap) : Prop := ∃ f : Nat → Int64, f 0 = w ∧ va_at E.1 vwCl (o, .inl (E.2.2.2.2 4, 1, .inr (.inl f))) H
theorem Ow.kept {E : Ev} {o : Nat} {w : Int64} {H H1 : Heap} (h : Ow E o w H) (hq : H1[o]? = H[o]?) : Ow E o w H1 := by
  obtain ⟨f, h1, h2⟩ := h
  exact ⟨f, h1, h2.kept hq⟩
theorem Ow.lt {E : Ev} {o : Nat} {w : Int64} {H : Heap} (h : Ow E o w H) : o < H.size := by
  obtain ⟨f, h1, h2⟩ := h
  exact h2.lt
/-- no exception of the class is of another one's class -/
def Nx (U : State) : Prop := ∀ i, i < 4 → ∀ j, j < 4 → i ≠ j → va_Nc (exn i) (exn j) U
theorem Nx.moved {u U : State} (hvm : u.vm.Alike U.vm) (h : Nx u) : Nx U := fun i hi j hj hij => va_Nc.moved hvm (h i hi j hj hij)
def Aw (a o : Nat) : Nat → Prop := fun q => (a ≤ q ∧ q < a + 384) ∨ q = o
def PrL (l : Launch) (E : Ev) (a o : Nat) (σ : Mem) (w : Int64) (U : State) : Prop := Kn l E U ∧ Nx U ∧ Wd E (LC E a) σ U.heap ∧ Ow E o w U.heap ∧ Od E U.heap ∧ a + 384 ≤ o
theorem PrL.blind {l : Launch} {E : Ev} {a o : Nat} {σ : Mem} {w : Int64} (av : List Value) : FrameBlind (va_Pc av (PrL l E a o σ w)) := fun x U g mk h => ⟨h.1, Kn.same (s := U) (U := U.calling g mk x) rfl h.2.1, Nx.moved (u := U) (U := U.calling g mk x) (Vm.Alike.refl U.vm) h.2.2.1, h.2.2.2⟩
def ou (r : Rx) (w : Int64) : Int64 := match r.1 with
  | .inl _ => w
  | .inr v => v.toInt64
def QzL (E : Ev) (a o : Nat) (k : Int32) (r : Rx) (w : Int64) : Array Value → State → Outcome → State → Prop := fun _ st ot t => ot = .returned (some (.int k)) ∧ Wd E (LC E a) r.2 t.heap ∧ Ow E o (ou r w) t.heap ∧ va_F (Aw a o) st t
def twc (y : MethodName) (cc : ByteArray) (n : Nat) (r : Option FieldType) (hh : List (Nat × Nat × Nat × Nat)) : List Cond := .codeWith y cc n r hh :: tb
theorem cw_of {l : Launch} {y : MethodName} {cc : ByteArray} {n : Nat} {r : Option FieldType} {hh : List (Nat × Nat × Nat × Nat)} {rm : Room} {av : List Value} {E : Ev} {a o : Nat} {σ : Mem} {w : Int64} {Qc : Array Value → State → Outcome → State → Prop} {mc ms : Nat} (hy : plainName y.cls = true) (hlen : (lg_sl av).length ≤ n)
    (body : ∀ p e s m below meth c, Cx p l s m av.toArray meth c E cc n y.cls r → c.exceptionTable.toList = tableOf hh → Nx s → Wd E (LC E a) σ s.heap → Ow E o w s.heap → a + 384 ≤ o → va_S (Aw a o) s.heap s.heap [] → ∀ ls, lv_has ls n (lv_args 0 av) → W p l e rm s m av.toArray below meth c s.heap [] 0 0 (MQ below Qc av.toArray s mc ms (Aw a o)) (F0 m 0 ls [])) : Met l y (twc y cc n r hh) rm (va_Pc av (PrL l E a o σ w)) Qc mc ms (Aw a o) := by
  refine MetFree.of_bodyS (code := cc) (maxLocals := n) (ret := r) hy ?_ ?_
  · intro args s m h hn
    obtain ⟨m9, meth, c, hn9, h1, h2, h3, h4, -, h5, h6, -⟩ := Cond.codeWith_spec (atoms_spec (ws := twc y cc n r hh) h _ List.mem_cons_self)
    cases hn.symm.trans hn9
    exact ⟨meth, c, h1, h2, h3, h4, h5, h6⟩
  · intro p e s m args below meth c s₁ B hml hP _
    have hh0 : s₁.heap = s.heap := by rw [B.state]; rfl
    obtain ⟨rfl, hK, hN, hW, hOw, hO, hao⟩ := hP
    have hts := atoms_spec (ws := twc y cc n r hh) B.pre
    have hown : s.vm.findClass y.cls = some m.cls := findClass_of_methodNamed B.named
    have hl := lv_entry av (n := n) hlen
    have hb := body p e s m below meth c ⟨B.exec, B.bytes, hml, hown, fun w hw => hts w (List.mem_cons_of_mem _ hw), B.notSynchronized, B.returns, hK, hO⟩ (vx_table (x := y) B (hts _ List.mem_cons_self)) hN hW hOw hao va_S.rf _ hl
    rw [← lg_entry_eq] at hb
    obtain ⟨t, a1, o1, b1, b2, b3⟩ := hb s₁ hh0 (Stand.of_body B)
    exact ⟨t, o1, a1, b1, b2, b3⟩
section RowsL
variable {p : Program} {l : Launch} {e : Env} {R : Room} {s : State} {m : MethodId} {args : Array Value} {below : List Frame} {meth : Method} {c : Code} {H : Heap} {locs : List Loc} {cells slots mc ms : Nat} {Q : State → Prop}
variable {E : Ev} {L : Lay} {σ : Mem} {cc : ByteArray} {nL : Nat} {own : String} {rt : Option FieldType} {pc : Nat} {ls : Array Slot} {rest : List Value} {A0 : Nat → Prop}
/-- a call of a method that throws, from where more than its world is held -/
theorem y_callV (C : Cx p l s m args meth c E cc nL own rt) (hW : Wd E L σ H) (hS : va_S A0 s.heap H locs) (hA : ∀ q, La L q → A0 q) (hO2 : Od E H) {k : Nat} (hk : k < L.1) {ci : Nat} {fs : List Value} (hc : L.2.2 σ k = .inr (ci, fs)) {Cn : String} {T : u_T} {N : Nat} {ty : Nat → FieldType} (kc : KC ci Cn T N ty)
    {y : MethodName} {cb : ByteArray} {ml n : Nat} {ry : Option FieldType} {fr lo : Nat} {As : List Value} {rv : Int32 → Option Value} {r : Rx} (hM : vx_Met l y (tw y cb ml ry) { frames := fr, cells := mc, slots := ms, locals := lo } (va_Pc (.ref (L.2.1 + k) :: As) (Pr l E L σ)) (Qx E L rv r) (Xx E L r) mc ms (La L)) (cw : CW y cb ml ry n) (cv : CV y) (hCn : y.cls = Cn) {index : Nat} (hlk : Cond.methodLink own index y ∈ tb) (hR : fr + 1 ≤ R.frames ∧ 8 + (ml + 11) + lo ≤ R.locals)
    (hn : As.length = n) (hls : ls.size = nL) (hsum : (rest.map fun v => v.category).sum ≤ 8) (hf : cells + mc ≤ R.cells ∧ slots + ms ≤ R.slots) (hdg : decode cc pc = .ok (.invokevirtual index, 3)) {st : List Value} (hst : st = As.reverse ++ .ref (L.2.1 + k) :: rest)
    (kx : ∀ n, r.1 = .inl n → ∀ (H1 : Heap) (locs1 : List Loc) (q : Addr) (ce : Cell), Wd E L r.2 H1 → va_S A0 s.heap H1 locs1 → H.size ≤ H1.size → (∀ q, q < H.size → ¬ La L q → H1[q]? = H[q]?) → H1[q]? = some ce → ce.vm = .none → s.vm.findClass (exn n) = some ce.cls → vx_W p l e R s m args below meth c H1 locs1 (cells + mc) (slots + ms) Q (F0 m pc ls rest) q)
    (kk : ∀ v, r.1 = .inr v → ∀ (H1 : Heap) (locs1 : List Loc), Wd E L r.2 H1 → va_S A0 s.heap H1 locs1 → H.size ≤ H1.size → (∀ q, q < H.size → ¬ La L q → H1[q]? = H[q]?) → W p l e R s m args below meth c H1 locs1 (cells + mc) (slots + ms) Q (F0 m (pc + 3) ls ((rv v).toList ++ rest))) : W p l e R s m args below meth c H locs cells slots Q (F0 m pc ls st) := by
  obtain ⟨hx, hb, hml, hown, hts, hlocks, hr, ⟨hK, hX⟩, hO⟩ := C
  obtain ⟨w1, w2, w3, w4⟩ := cw
  obtain ⟨k1, k2, k3, k4⟩ := kc
  subst hCn
  have cb0 : CallB R s args own index y cb ml ry (tw y cb ml ry) { frames := fr, cells := mc, slots := ms, locals := lo } mc ms n := callB_of n hts (tw_good w1) rfl rfl rfl (hts _ w2) (hts _ hlk) ⟨w3.1, w3.2, w4⟩ hR
  have hrun := vx_runV (p := p) (e := e) (below := below) (meth := meth) (H := H) (locs := locs) (cells := cells) (slots := slots) (g := F0 m pc ls st) (rest := rest) ⟨hx, hb, hml, hown, hts⟩ hM ⟨cb0, hts _ cv.1, hts _ cv.2⟩ ⟨Pr.blind _, va_recv hK hW.1 (ci := ci) (q0 := k) k1 (by rw [wl_at hk, hc]), fun U hU hWm => ⟨rfl, Kn.warm hWm ⟨hK, hX⟩, by rw [hU]; exact hW, by rw [hU]; exact hO2⟩⟩ rfl hn hls hst (lv_room hsum) hdg hf
  intro Tt hT X
  rcases hrun Tt hT X with ⟨v, st₀, t, T', L', h0, X', hL, e1, e2, ⟨w, hr1, hv, hw, hz, hk2⟩, stp⟩ | ⟨q, st₀, t, T', L', En, ce, h0, X', hL, e1, e2, ⟨n, hr1, hn, hw, hz, hk2⟩, hce, hcv, hcl, stp⟩
  · cases hv
    rw [h0] at hz hk2
    obtain ⟨t2, a1, b1⟩ := kk w hr1 T'.heap (locs ++ L') (by rw [e1]; exact hw) ⟨Nat.le_trans hS.1 (by rw [e1]; exact hz), fun q h1 h2 => by rw [e1, hk2 q (Nat.lt_of_lt_of_le h1 hS.1) (fun z => h2 (hA q z))]; exact hS.2.1 q h1 h2, fun q hq => by
        rcases List.mem_append.mp hq with h | h
        · exact hS.2.2 q h
        · exact hA _ (hL q h)⟩ (by rw [e1]; exact hz) (fun q h1 h2 => by rw [e1]; exact hk2 q h1 h2) T' rfl X'
    exact ⟨t2, stp t2 a1, b1⟩
  · rw [h0] at hz hk2
    subst hn
    obtain ⟨t2, a1, b1⟩ := kx n hr1 T'.heap (locs ++ L') q ce (by rw [e1]; exact hw) ⟨Nat.le_trans hS.1 (by rw [e1]; exact hz), fun q h1 h2 => by rw [e1, hk2 q (Nat.lt_of_lt_of_le h1 hS.1) (fun z => h2 (hA q z))]; exact hS.2.1 q h1 h2, fun q hq => by
        rcases List.mem_append.mp hq with h | h
        · exact hS.2.2 q h
        · exact hA _ (hL q h)⟩ (by rw [e1]; exact hz) (fun q h1 h2 => by rw [e1]; exact hk2 q h1 h2) (by rw [e1]; exact hce) hcv hcl T' rfl X'
    exact ⟨t2, stp.trans a1, b1⟩
/-- the answer goes into the row of one long -/
theorem y_last {a o : Nat} {w x : Int64} (C : Cx p l s m args meth c E cc nL own rt) (hW : Wd E (LC E a) σ H) (hOw : Ow E o w H) (hao : a + 384 ≤ o) (hS : va_S (Aw a o) s.heap H locs) (hdg : decode cc pc = .ok (.lastore, 1))
    (kk : ∀ (H1 : Heap) (locs1 : List Loc), Wd E (LC E a) σ H1 → Ow E o x H1 → va_S (Aw a o) s.heap H1 locs1 → W p l e R s m args below meth c H1 locs1 cells slots Q (F0 m (pc + 1) ls rest)) : W p l e R s m args below meth c H locs cells slots Q (F0 m pc ls (.long x :: .int 0 :: .ref o :: rest)) := by
  obtain ⟨hx, hb, hml, hown, hts, hlocks, hr, ⟨hK, hX⟩, hO⟩ := C
  obtain ⟨f, hf, hat⟩ := hOw
  have hlen : (wl (LC E a) σ).length = 384 := by simp [wl]
  have hP : va_P E.1 vwCl (wl (LC E a) σ ++ [(o, .inl (E.2.2.2.2 4, 1, .inr (.inl f)))]) H := hW.1.app (fun k q hk => by
    match k, hk with
    | 0, hk => cases hk; exact hat
    | k + 1, hk => simp at hk)
  have hD : va_D (Aw a o) (wl (LC E a) σ ++ [(o, .inl (E.2.2.2.2 4, 1, .inr (.inl f)))]) := by
    refine va_D.app ((wl_D (LC E a) σ).weaken (fun k q _ h => Or.inl h)) ⟨fun i j x y hi hj _ => ?_, fun k q hk => ?_⟩ (fun i j x y hx hy hxy => ?_)
    · have h1 := (List.getElem?_eq_some_iff.mp hi).1
      have h2 := (List.getElem?_eq_some_iff.mp hj).1
      simp at h1 h2
      omega
    · match k, hk with
      | 0, hk => cases hk; exact Or.inr rfl
      | k + 1, hk => simp at hk
    · obtain ⟨h1, rfl⟩ := wl_of hx
      have h1 : i < 384 := h1
      have h2 := (List.getElem?_eq_some_iff.mp hy).1
      match j, hy with
      | 0, hy =>
        cases hy
        have h3 : a + i = o := hxy
        omega
      | j + 1, hy => simp at hy
  refine va_last (D := E.1) (cl := vwCl) (ws := wl (LC E a) σ ++ [(o, .inl (E.2.2.2.2 4, 1, .inr (.inl f)))]) (A := Aw a o) (H0 := s.heap) hx hb hK hP hD hS 384 4 (f := f) (n := 1) (cA := E.2.2.2.2 4) (by rw [List.getElem?_append_right (by omega), hlen]; rfl) rfl (i := 0) (fun z => by rcases z with z | z <;> revert z <;> decide) hdg (fun H1 locs1 hP1 hD1 hS1 => ?_)
  rw [List.set_append_right _ _ (by omega), hlen] at hP1
  refine kk H1 locs1 ⟨fun k q hk => hP1 k q (by rw [List.getElem?_append_left (List.getElem?_eq_some_iff.mp hk).1]; exact hk), hW.2⟩ ⟨vp_updL f 0 x, rfl, hP1 384 _ (by rw [List.getElem?_append_right (by omega), hlen]; rfl)⟩ hS1
theorem y_iret {a o : Nat} {r : Rx} {w : Int64} {k : Int32} (C : Cx p l s m args meth c E cc nL own (some .int)) (hW : Wd E (LC E a) r.2 H) (hOw : Ow E o (ou r w) H) (hS : va_S (Aw a o) s.heap H locs) (hc : cells ≤ mc) (hs : slots ≤ ms) (hdg : decode cc pc = .ok (.ireturn, 1)) : W p l e R s m args below meth c H locs cells slots (MQ below (QzL E a o k r w) args s mc ms (Aw a o)) (F0 m pc ls [.int k]) := by
  obtain ⟨hx, hb, hml, hown, hts, hlocks, hr, ⟨hK, hX⟩, hO⟩ := C
  exact W.widen (k := mc) (n := ms) hc hs (W.iret hx hb hr (fun t ht hW2 => ⟨rfl, by rw [ht]; exact hW, by rw [ht]; exact hOw, hS.F ht⟩) hS.2.2 hdg)
theorem aw_ne {a o : Nat} (h : a + 384 ≤ o) : ¬ La (LC E a) o := fun z => by
  have := z.2
  show False
  have h2 : o < a + 384 := this
  omega
theorem aw_od {a o : Nat} (hO : Od E s.heap) (hW : Wd E (LC E a) σ H) (hao : a + 384 ≤ o) (hS : va_S (Aw a o) s.heap H locs) : Od E H := by
  refine ⟨Nat.le_trans hO.1 hS.1, fun q hq => (hS.2.1 q (Nat.lt_of_lt_of_le hq hO.1) (fun z => ?_)).trans (hO.2 q hq)⟩
  have h1 : E.2.1.size ≤ a := hW.2
  rcases z with z | z
  · omega
  · omega
/-- the exception is caught by one of the rows -/
theorem y_catch {n : Nat} {q : Addr} {ce : Cell} {E0 : Ev} (C : Cx p l s m args meth c E0 cc nL own rt) {hh : List (Nat × Nat × Nat × Nat)} (hTb : c.exceptionTable.toList = tableOf hh) (hN : Nx s) (hn : n < 4) (i : Nat) {x : Nat × Nat × Nat × Nat} (hi : hh[i]? = some x) (cs : List Nat) (hcs : cs.length = i) (hpre : ∀ j, j < i → ∃ y cj, hh[j]? = some y ∧ cs[j]? = some cj ∧ cj < 4 ∧ cj ≠ n ∧ y.2.2.2 ≠ 0 ∧ Cond.classLink own y.2.2.2 (exn cj) ∈ tb) (h0 : x.2.2.2 ≠ 0) (hlk : Cond.classLink own x.2.2.2 (exn n) ∈ tb) (hca : Cond.castable (exn n) (exn n) ∈ lw_tbl) (hcov : covers ⟨x.1, x.2.1, x.2.2.1, x.2.2.2⟩ pc = true) (hcell : H[q]? = some ce) (hv : ce.vm = .none) (hcl : s.vm.findClass (exn n) = some ce.cls)
    (kk : W p l e R s m args below meth c H locs cells slots Q (F0 m x.2.2.1 ls [.ref q])) : vx_W p l e R s m args below meth c H locs cells slots Q (F0 m pc ls rest) q := by
  obtain ⟨hx, hb, hml, hown, hts, hlocks, hr, ⟨hK, hX⟩, hO⟩ := C
  have hil : i < hh.length := (List.getElem?_eq_some_iff.mp hi).1
  have hxe : hh[i] = x := (List.getElem?_eq_some_iff.mp hi).2
  have hsplit : c.exceptionTable.toList = tableOf (hh.take i) ++ ⟨x.1, x.2.1, x.2.2.1, x.2.2.2⟩ :: tableOf (hh.drop (i + 1)) := by
    rw [hTb]
    have h1 : hh = hh.take i ++ x :: hh.drop (i + 1) := by
      rw [← hxe, List.getElem_cons_drop hil, List.take_append_drop]
    conv => lhs; rw [h1]
    simp [tableOf]
  refine vx_catch (own := own) (name := exn n) (E := exn n) hown _ _ _ hsplit (fun z hz => ?_) hcov h0 (hts _ hlk) (va_Nw.use rfl (hX.1.1 _ hca rfl)) hcell hv hcl kk
  simp only [tableOf, List.mem_map] at hz
  obtain ⟨y, hy, rfl⟩ := hz
  obtain ⟨j, hj⟩ := List.getElem?_of_mem hy
  have hjl : j < i := by
    have := (List.getElem?_eq_some_iff.mp hj).1
    simp at this
    omega
  rw [List.getElem?_take_of_lt hjl] at hj
  obtain ⟨y', cj, p1, p2, p3, p4, p5, p6⟩ := hpre j hjl
  cases Option.some.inj (p1.symm.trans hj)
  exact Or.inr ⟨p5, exn cj, hts _ p6, hN n hn cj p3 (Ne.symm p4)⟩
end RowsL
def CWW (y : MethodName) (cc : ByteArray) (n : Nat) (r : Option FieldType) (hh : List (Nat × Nat × Nat × Nat)) (k : Nat) : Prop := Cond.codeWith y cc n r hh ∈ tb ∧ Cond.initialized y.cls ∈ tb ∧ (y.cls ≠ "java/lang/invoke/MethodHandle" ∧ y.cls ≠ "java/lang/invoke/VarHandle") ∧ (parseMethodDescriptor y.desc).map (fun d => d.parameters.length) = some k
theorem kd0 : kd 0 = 11 := by decide +kernel
theorem cwL_append : CWW yL_append cL_append 8 (some .int) [(0, 16, 19, 13)] 7 := ⟨tb_i 970 (by decide +kernel) (by decide +kernel), iniL, by decide +kernel, by decide +kernel⟩
theorem csL_append : Cond.static yL_append ∈ tb := tb_i 969 (by decide +kernel) (by decide +kernel)
set_option maxRecDepth 100000 in
set_option maxHeartbeats 4000000 in
theorem mL_append {l : Launch} {E : Ev} {a o : Nat} (x1 : Int32) (x2 : Int32) (x3 : Int32) (x4 : Int32) (x5 : Int32) (σ : Mem) (r : Rx) (h : fX11_append 0 x1 x2 x3 x4 x5 σ = some r) (w : Int64) (k : Int32) (hk : (∃ v, r.1 = .inr v ∧ k = 0) ∨ (r.1 = .inl 0 ∧ k = 1)) : Met l yL_append (twc yL_append cL_append 8 (some .int) [(0, 16, 19, 13)]) { frames := 7, cells := 1, slots := 6, locals := 116 } (va_Pc [.ref (a + 0), .int x1, .int x2, .int x3, .int x4, .int x5, .ref o] (PrL l E a o σ w)) (QzL E a o k r w) 1 6 (Aw a o) := by
  refine cw_of (by decide) (Nat.le_of_ble_eq_true rfl) ?_
  intro p e s m below meth c C hTb hN hW hOw hao hS ls hl
  have hx0 := C.1
  have hb := C.2.1
  have hl : lv_has ls 8 [(0, .ref (a + 0)), (1, .int x1), (2, .int x2), (3, .int x3), (4, .int x4), (5, .int x5), (6, .ref o)] := hl
  refine lv_aload hx0 hb dL_append_0 (lv_at hl 6 rfl) ?_
  refine lv_iconst (v := (0 : Int32)) hx0 hb dL_append_2 (by decide) ?_
  refine lv_aload_n hx0 hb dL_append_3 rfl (lv_at hl 0 rfl) ?_
  refine lv_iload_n hx0 hb dL_append_4 rfl (lv_at hl 1 rfl) ?_
  refine lv_iload_n hx0 hb dL_append_5 rfl (lv_at hl 2 rfl) ?_
  refine lv_iload_n hx0 hb dL_append_6 rfl (lv_at hl 3 rfl) ?_
  refine lv_iload hx0 hb dL_append_7 (lv_at hl 4 rfl) ?_
  refine lv_iload hx0 hb dL_append_9 (lv_at hl 5 rfl) ?_
  refine y_callV (L := LC E a) (k := 0) (As := [.int x1, .int x2, .int x3, .int x4, .int x5]) (rest := [.int (0 : Int32), .ref o]) C hW hS (fun q z => Or.inl z) (aw_od C.2.2.2.2.2.2.2.2 hW hao hS) (kdlt kd0 (by decide)) (ccX11 kd0) kcX11 (mX11_append 0 x1 x2 x3 x4 x5 kd0 σ r h) cwX11_append cvX11_append rfl mlL_7 ⟨by decide, by decide⟩ rfl hl.1 (Nat.le_of_ble_eq_true rfl) ⟨by decide, by decide⟩ dL_append_11 rfl (fun n en H locs q ce hW hS hz hf hq hv hc => ?_) (fun v ev H locs hW hS hz hf => ?_)
  · have hOw := hOw.kept (hf o hOw.lt (aw_ne hao))
    rcases hk with ⟨v9, e9, rfl⟩ | ⟨e9, rfl⟩
    · rw [e9] at en; cases en
    · rw [e9] at en
      cases en
      refine y_catch (n := 0) C hTb hN (by decide) 0 (x := (0, 16, 19, 13)) rfl [] rfl (fun j hj => by
          omega) (by decide) clL_13 (List.mem_of_getElem? (i := 981) (by decide +kernel)) (by decide +kernel) hq hv hc ?_
      refine lv_astore (lv' := [(7, .ref q), (0, .ref (a + 0)), (1, .int x1), (2, .int x2), (3, .int x3), (4, .int x4), (5, .int x5), (6, .ref o)]) hx0 hb dL_append_19 hl (by decide) rfl (fun ls hl => ?_)
      refine lv_iconst (v := (1 : Int32)) hx0 hb dL_append_21 (by decide) ?_
      exact y_iret C hW (by rw [ou, e9]; exact hOw) hS (by decide) (by decide) dL_append_22
  · have hOw := hOw.kept (hf o hOw.lt (aw_ne hao))
    rcases hk with ⟨v9, e9, rfl⟩ | ⟨e9, rfl⟩
    · refine lv_i2l hx0 hb dL_append_14 rfl ?_
      refine y_last C hW hOw hao hS dL_append_15 (fun H locs hW hOw hS => ?_)
      refine lv_goto (tgt := 23) hx0 hb dL_append_16 (by decide) ?_
      refine lv_iconst (v := (0 : Int32)) hx0 hb dL_append_23 (by decide) ?_
      exact y_iret C hW (by rw [ou, ev]; exact hOw) hS (by decide) (by decide) dL_append_24
    · rw [e9] at ev; cases ev
theorem cwL_truncate : CWW yL_truncate cL_truncate 4 (some .int) [(0, 9, 12, 19)] 3 := ⟨tb_i 1054 (by decide +kernel) (by decide +kernel), iniL, by decide +kernel, by decide +kernel⟩
theorem csL_truncate : Cond.static yL_truncate ∈ tb := tb_i 1053 (by decide +kernel) (by decide +kernel)
set_option maxRecDepth 100000 in
set_option maxHeartbeats 4000000 in
theorem mL_truncate {l : Launch} {E : Ev} {a o : Nat} (x1 : Int32) (σ : Mem) (r : Rx) (h : fX11_truncate 0 x1 σ = some r) (w : Int64) (k : Int32) (hk : (∃ v, r.1 = .inr v ∧ k = 0) ∨ (r.1 = .inl 1 ∧ k = 1)) : Met l yL_truncate (twc yL_truncate cL_truncate 4 (some .int) [(0, 9, 12, 19)]) { frames := 7, cells := 1, slots := 6, locals := 111 } (va_Pc [.ref (a + 0), .int x1, .ref o] (PrL l E a o σ w)) (QzL E a o k r w) 1 6 (Aw a o) := by
  refine cw_of (by decide) (Nat.le_of_ble_eq_true rfl) ?_
  intro p e s m below meth c C hTb hN hW hOw hao hS ls hl
  have hx0 := C.1
  have hb := C.2.1
  have hl : lv_has ls 4 [(0, .ref (a + 0)), (1, .int x1), (2, .ref o)] := hl
  refine lv_aload_n hx0 hb dL_truncate_0 rfl (lv_at hl 2 rfl) ?_
  refine lv_iconst (v := (0 : Int32)) hx0 hb dL_truncate_1 (by decide) ?_
  refine lv_aload_n hx0 hb dL_truncate_2 rfl (lv_at hl 0 rfl) ?_
  refine lv_iload_n hx0 hb dL_truncate_3 rfl (lv_at hl 1 rfl) ?_
  refine y_callV (L := LC E a) (k := 0) (As := [.int x1]) (rest := [.int (0 : Int32), .ref o]) C hW hS (fun q z => Or.inl z) (aw_od C.2.2.2.2.2.2.2.2 hW hao hS) (kdlt kd0 (by decide)) (ccX11 kd0) kcX11 (mX11_truncate 0 x1 kd0 σ r h) cwX11_truncate cvX11_truncate rfl mlL_15 ⟨by decide, by decide⟩ rfl hl.1 (Nat.le_of_ble_eq_true rfl) ⟨by decide, by decide⟩ dL_truncate_4 rfl (fun n en H locs q ce hW hS hz hf hq hv hc => ?_) (fun v ev H locs hW hS hz hf => ?_)
  · have hOw := hOw.kept (hf o hOw.lt (aw_ne hao))
    rcases hk with ⟨v9, e9, rfl⟩ | ⟨e9, rfl⟩
    · rw [e9] at en; cases en
    · rw [e9] at en
      cases en
      refine y_catch (n := 1) C hTb hN (by decide) 0 (x := (0, 9, 12, 19)) rfl [] rfl (fun j hj => by
          omega) (by decide) clL_19 (List.mem_of_getElem? (i := 1062) (by decide +kernel)) (by decide +kernel) hq hv hc ?_
      refine lv_astore_n (lv' := [(3, .ref q), (0, .ref (a + 0)), (1, .int x1), (2, .ref o)]) hx0 hb dL_truncate_12 rfl hl (by decide) rfl (fun ls hl => ?_)
      refine lv_iconst (v := (1 : Int32)) hx0 hb dL_truncate_13 (by decide) ?_
      exact y_iret C hW (by rw [ou, e9]; exact hOw) hS (by decide) (by decide) dL_truncate_14
  · have hOw := hOw.kept (hf o hOw.lt (aw_ne hao))
    rcases hk with ⟨v9, e9, rfl⟩ | ⟨e9, rfl⟩
    · refine lv_i2l hx0 hb dL_truncate_7 rfl ?_
      refine y_last C hW hOw hao hS dL_truncate_8 (fun H locs hW hOw hS => ?_)
      refine lv_goto (tgt := 15) hx0 hb dL_truncate_9 (by decide) ?_
      refine lv_iconst (v := (0 : Int32)) hx0 hb dL_truncate_15 (by decide) ?_
      exact y_iret C hW (by rw [ou, ev]; exact hOw) hS (by decide) (by decide) dL_truncate_16
    · rw [e9] at ev; cases ev
theorem cwL_load : CWW yL_load cL_load 3 (some .int) [(0, 8, 11, 19)] 2 := ⟨tb_i 1078 (by decide +kernel) (by decide +kernel), iniL, by decide +kernel, by decide +kernel⟩
theorem csL_load : Cond.static yL_load ∈ tb := tb_i 1077 (by decide +kernel) (by decide +kernel)
set_option maxRecDepth 100000 in
set_option maxHeartbeats 4000000 in
theorem mL_load {l : Launch} {E : Ev} {a o : Nat} (σ : Mem) (r : Rx) (h : fX11_load 0 σ = some r) (w : Int64) (k : Int32) (hk : (∃ v, r.1 = .inr v ∧ k = 0) ∨ (r.1 = .inl 1 ∧ k = 1)) : Met l yL_load (twc yL_load cL_load 3 (some .int) [(0, 8, 11, 19)]) { frames := 10, cells := 1, slots := 6, locals := 287 } (va_Pc [.ref (a + 0), .ref o] (PrL l E a o σ w)) (QzL E a o k r w) 1 6 (Aw a o) := by
  refine cw_of (by decide) (Nat.le_of_ble_eq_true rfl) ?_
  intro p e s m below meth c C hTb hN hW hOw hao hS ls hl
  have hx0 := C.1
  have hb := C.2.1
  have hl : lv_has ls 3 [(0, .ref (a + 0)), (1, .ref o)] := hl
  refine lv_aload_n hx0 hb dL_load_0 rfl (lv_at hl 1 rfl) ?_
  refine lv_iconst (v := (0 : Int32)) hx0 hb dL_load_1 (by decide) ?_
  refine lv_aload_n hx0 hb dL_load_2 rfl (lv_at hl 0 rfl) ?_
  refine y_callV (L := LC E a) (k := 0) (As := []) (rest := [.int (0 : Int32), .ref o]) C hW hS (fun q z => Or.inl z) (aw_od C.2.2.2.2.2.2.2.2 hW hao hS) (kdlt kd0 (by decide)) (ccX11 kd0) kcX11 (mX11_load 0 kd0 σ r h) cwX11_load cvX11_load rfl mlL_21 ⟨by decide, by decide⟩ rfl hl.1 (Nat.le_of_ble_eq_true rfl) ⟨by decide, by decide⟩ dL_load_3 rfl (fun n en H locs q ce hW hS hz hf hq hv hc => ?_) (fun v ev H locs hW hS hz hf => ?_)
  · have hOw := hOw.kept (hf o hOw.lt (aw_ne hao))
    rcases hk with ⟨v9, e9, rfl⟩ | ⟨e9, rfl⟩
    · rw [e9] at en; cases en
    · rw [e9] at en
      cases en
      refine y_catch (n := 1) C hTb hN (by decide) 0 (x := (0, 8, 11, 19)) rfl [] rfl (fun j hj => by
          omega) (by decide) clL_19 (List.mem_of_getElem? (i := 1062) (by decide +kernel)) (by decide +kernel) hq hv hc ?_
      refine lv_astore_n (lv' := [(2, .ref q), (0, .ref (a + 0)), (1, .ref o)]) hx0 hb dL_load_11 rfl hl (by decide) rfl (fun ls hl => ?_)
      refine lv_iconst (v := (1 : Int32)) hx0 hb dL_load_12 (by decide) ?_
      exact y_iret C hW (by rw [ou, e9]; exact hOw) hS (by decide) (by decide) dL_load_13
  · have hOw := hOw.kept (hf o hOw.lt (aw_ne hao))
    rcases hk with ⟨v9, e9, rfl⟩ | ⟨e9, rfl⟩
    · refine lv_i2l hx0 hb dL_load_6 rfl ?_
      refine y_last C hW hOw hao hS dL_load_7 (fun H locs hW hOw hS => ?_)
      refine lv_goto (tgt := 14) hx0 hb dL_load_8 (by decide) ?_
      refine lv_iconst (v := (0 : Int32)) hx0 hb dL_load_14 (by decide) ?_
      exact y_iret C hW (by rw [ou, ev]; exact hOw) hS (by decide) (by decide) dL_load_15
    · rw [e9] at ev; cases ev
theorem cwL_lose : CWW yL_lose cL_lose 4 (some .int) [(0, 9, 12, 28), (0, 9, 15, 13)] 3 := ⟨tb_i 1091 (by decide +kernel) (by decide +kernel), iniL, by decide +kernel, by decide +kernel⟩
theorem csL_lose : Cond.static yL_lose ∈ tb := tb_i 1090 (by decide +kernel) (by decide +kernel)
set_option maxRecDepth 100000 in
set_option maxHeartbeats 4000000 in
theorem mL_lose {l : Launch} {E : Ev} {a o : Nat} (x1 : Int32) (σ : Mem) (r : Rx) (h : fX11_lose 0 x1 σ = some r) (w : Int64) (k : Int32) (hk : (∃ v, r.1 = .inr v ∧ k = 0) ∨ (r.1 = .inl 2 ∧ k = 1) ∨ (r.1 = .inl 0 ∧ k = 2)) : Met l yL_lose (twc yL_lose cL_lose 4 (some .int) [(0, 9, 12, 28), (0, 9, 15, 13)]) { frames := 8, cells := 2, slots := 12, locals := 147 } (va_Pc [.ref (a + 0), .int x1, .ref o] (PrL l E a o σ w)) (QzL E a o k r w) 2 12 (Aw a o) := by
  refine cw_of (by decide) (Nat.le_of_ble_eq_true rfl) ?_
  intro p e s m below meth c C hTb hN hW hOw hao hS ls hl
  have hx0 := C.1
  have hb := C.2.1
  have hl : lv_has ls 4 [(0, .ref (a + 0)), (1, .int x1), (2, .ref o)] := hl
  refine lv_aload_n hx0 hb dL_lose_0 rfl (lv_at hl 2 rfl) ?_
  refine lv_iconst (v := (0 : Int32)) hx0 hb dL_lose_1 (by decide) ?_
  refine lv_aload_n hx0 hb dL_lose_2 rfl (lv_at hl 0 rfl) ?_
  refine lv_iload_n hx0 hb dL_lose_3 rfl (lv_at hl 1 rfl) ?_
  refine y_callV (L := LC E a) (k := 0) (As := [.int x1]) (rest := [.int (0 : Int32), .ref o]) C hW hS (fun q z => Or.inl z) (aw_od C.2.2.2.2.2.2.2.2 hW hao hS) (kdlt kd0 (by decide)) (ccX11 kd0) kcX11 (mX11_lose 0 x1 kd0 σ r h) cwX11_lose cvX11_lose rfl mlL_25 ⟨by decide, by decide⟩ rfl hl.1 (Nat.le_of_ble_eq_true rfl) ⟨by decide, by decide⟩ dL_lose_4 rfl (fun n en H locs q ce hW hS hz hf hq hv hc => ?_) (fun v ev H locs hW hS hz hf => ?_)
  · have hOw := hOw.kept (hf o hOw.lt (aw_ne hao))
    rcases hk with ⟨v9, e9, rfl⟩ | ⟨e9, rfl⟩ | ⟨e9, rfl⟩
    · rw [e9] at en; cases en
    · rw [e9] at en
      cases en
      refine y_catch (n := 2) C hTb hN (by decide) 0 (x := (0, 9, 12, 28)) rfl [] rfl (fun j hj => by
          omega) (by decide) clL_28 (List.mem_of_getElem? (i := 1104) (by decide +kernel)) (by decide +kernel) hq hv hc ?_
      refine lv_astore_n (lv' := [(3, .ref q), (0, .ref (a + 0)), (1, .int x1), (2, .ref o)]) hx0 hb dL_lose_12 rfl hl (by decide) rfl (fun ls hl => ?_)
      refine lv_iconst (v := (1 : Int32)) hx0 hb dL_lose_13 (by decide) ?_
      exact y_iret C hW (by rw [ou, e9]; exact hOw) hS (by decide) (by decide) dL_lose_14
    · rw [e9] at en
      cases en
      refine y_catch (n := 0) C hTb hN (by decide) 1 (x := (0, 9, 15, 13)) rfl [2] rfl (fun j hj => by
          rcases (show j = 0 by omega) with rfl
          · exact ⟨_, _, rfl, rfl, by decide, by decide, by decide, clL_28⟩) (by decide) clL_13 (List.mem_of_getElem? (i := 981) (by decide +kernel)) (by decide +kernel) hq hv hc ?_
      refine lv_astore_n (lv' := [(3, .ref q), (0, .ref (a + 0)), (1, .int x1), (2, .ref o)]) hx0 hb dL_lose_15 rfl hl (by decide) rfl (fun ls hl => ?_)
      refine lv_iconst (v := (2 : Int32)) hx0 hb dL_lose_16 (by decide) ?_
      exact y_iret C hW (by rw [ou, e9]; exact hOw) hS (by decide) (by decide) dL_lose_17
  · have hOw := hOw.kept (hf o hOw.lt (aw_ne hao))
    rcases hk with ⟨v9, e9, rfl⟩ | ⟨e9, rfl⟩ | ⟨e9, rfl⟩
    · refine lv_i2l hx0 hb dL_lose_7 rfl ?_
      refine y_last C hW hOw hao hS dL_lose_8 (fun H locs hW hOw hS => ?_)
      refine lv_goto (tgt := 18) hx0 hb dL_lose_9 (by decide) ?_
      refine lv_iconst (v := (0 : Int32)) hx0 hb dL_lose_18 (by decide) ?_
      exact y_iret C hW (by rw [ou, ev]; exact hOw) hS (by decide) (by decide) dL_lose_19
    · rw [e9] at ev; cases ev
    · rw [e9] at ev; cases ev
theorem cwL_find : CWW yL_find cL_find 4 (some .int) [(0, 9, 12, 28), (0, 9, 15, 13)] 3 := ⟨tb_i 1126 (by decide +kernel) (by decide +kernel), iniL, by decide +kernel, by decide +kernel⟩
theorem csL_find : Cond.static yL_find ∈ tb := tb_i 1125 (by decide +kernel) (by decide +kernel)
set_option maxRecDepth 100000 in
set_option maxHeartbeats 4000000 in
theorem mL_find {l : Launch} {E : Ev} {a o : Nat} (x1 : Int32) (σ : Mem) (r : Rx) (h : fX11_find 0 x1 σ = some r) (w : Int64) (k : Int32) (hk : (∃ v, r.1 = .inr v ∧ k = 0) ∨ (r.1 = .inl 2 ∧ k = 1) ∨ (r.1 = .inl 0 ∧ k = 2)) : Met l yL_find (twc yL_find cL_find 4 (some .int) [(0, 9, 12, 28), (0, 9, 15, 13)]) { frames := 8, cells := 2, slots := 12, locals := 147 } (va_Pc [.ref (a + 0), .int x1, .ref o] (PrL l E a o σ w)) (QzL E a o k r w) 2 12 (Aw a o) := by
  refine cw_of (by decide) (Nat.le_of_ble_eq_true rfl) ?_
  intro p e s m below meth c C hTb hN hW hOw hao hS ls hl
  have hx0 := C.1
  have hb := C.2.1
  have hl : lv_has ls 4 [(0, .ref (a + 0)), (1, .int x1), (2, .ref o)] := hl
  refine lv_aload_n hx0 hb dL_find_0 rfl (lv_at hl 2 rfl) ?_
  refine lv_iconst (v := (0 : Int32)) hx0 hb dL_find_1 (by decide) ?_
  refine lv_aload_n hx0 hb dL_find_2 rfl (lv_at hl 0 rfl) ?_
  refine lv_iload_n hx0 hb dL_find_3 rfl (lv_at hl 1 rfl) ?_
  refine y_callV (L := LC E a) (k := 0) (As := [.int x1]) (rest := [.int (0 : Int32), .ref o]) C hW hS (fun q z => Or.inl z) (aw_od C.2.2.2.2.2.2.2.2 hW hao hS) (kdlt kd0 (by decide)) (ccX11 kd0) kcX11 (mX11_find 0 x1 kd0 σ r h) cwX11_find cvX11_find rfl mlL_30 ⟨by decide, by decide⟩ rfl hl.1 (Nat.le_of_ble_eq_true rfl) ⟨by decide, by decide⟩ dL_find_4 rfl (fun n en H locs q ce hW hS hz hf hq hv hc => ?_) (fun v ev H locs hW hS hz hf => ?_)
  · have hOw := hOw.kept (hf o hOw.lt (aw_ne hao))
    rcases hk with ⟨v9, e9, rfl⟩ | ⟨e9, rfl⟩ | ⟨e9, rfl⟩
    · rw [e9] at en; cases en
    · rw [e9] at en
      cases en
      refine y_catch (n := 2) C hTb hN (by decide) 0 (x := (0, 9, 12, 28)) rfl [] rfl (fun j hj => by
          omega) (by decide) clL_28 (List.mem_of_getElem? (i := 1104) (by decide +kernel)) (by decide +kernel) hq hv hc ?_
      refine lv_astore_n (lv' := [(3, .ref q), (0, .ref (a + 0)), (1, .int x1), (2, .ref o)]) hx0 hb dL_find_12 rfl hl (by decide) rfl (fun ls hl => ?_)
      refine lv_iconst (v := (1 : Int32)) hx0 hb dL_find_13 (by decide) ?_
      exact y_iret C hW (by rw [ou, e9]; exact hOw) hS (by decide) (by decide) dL_find_14
    · rw [e9] at en
      cases en
      refine y_catch (n := 0) C hTb hN (by decide) 1 (x := (0, 9, 15, 13)) rfl [2] rfl (fun j hj => by
          rcases (show j = 0 by omega) with rfl
          · exact ⟨_, _, rfl, rfl, by decide, by decide, by decide, clL_28⟩) (by decide) clL_13 (List.mem_of_getElem? (i := 981) (by decide +kernel)) (by decide +kernel) hq hv hc ?_
      refine lv_astore_n (lv' := [(3, .ref q), (0, .ref (a + 0)), (1, .int x1), (2, .ref o)]) hx0 hb dL_find_15 rfl hl (by decide) rfl (fun ls hl => ?_)
      refine lv_iconst (v := (2 : Int32)) hx0 hb dL_find_16 (by decide) ?_
      exact y_iret C hW (by rw [ou, e9]; exact hOw) hS (by decide) (by decide) dL_find_17
  · have hOw := hOw.kept (hf o hOw.lt (aw_ne hao))
    rcases hk with ⟨v9, e9, rfl⟩ | ⟨e9, rfl⟩ | ⟨e9, rfl⟩
    · refine lv_i2l hx0 hb dL_find_7 rfl ?_
      refine y_last C hW hOw hao hS dL_find_8 (fun H locs hW hOw hS => ?_)
      refine lv_goto (tgt := 18) hx0 hb dL_find_9 (by decide) ?_
      refine lv_iconst (v := (0 : Int32)) hx0 hb dL_find_18 (by decide) ?_
      exact y_iret C hW (by rw [ou, ev]; exact hOw) hS (by decide) (by decide) dL_find_19
    · rw [e9] at ev; cases ev
    · rw [e9] at ev; cases ev
theorem cwL_attach : CWW yL_attach cL_attach 6 (some .int) [(0, 12, 15, 28), (0, 12, 19, 19), (0, 12, 23, 13)] 5 := ⟨tb_i 1134 (by decide +kernel) (by decide +kernel), iniL, by decide +kernel, by decide +kernel⟩
theorem csL_attach : Cond.static yL_attach ∈ tb := tb_i 1133 (by decide +kernel) (by decide +kernel)
set_option maxRecDepth 100000 in
set_option maxHeartbeats 4000000 in
theorem mL_attach {l : Launch} {E : Ev} {a o : Nat} (x1 : Int32) (x2 : Int32) (x3 : Int32) (σ : Mem) (r : Rx) (h : fX11_attach 0 x1 x2 x3 σ = some r) (w : Int64) (k : Int32) (hk : (∃ v, r.1 = .inr v ∧ k = 0) ∨ (r.1 = .inl 2 ∧ k = 1) ∨ (r.1 = .inl 1 ∧ k = 2) ∨ (r.1 = .inl 0 ∧ k = 3)) : Met l yL_attach (twc yL_attach cL_attach 6 (some .int) [(0, 12, 15, 28), (0, 12, 19, 19), (0, 12, 23, 13)]) { frames := 8, cells := 3, slots := 18, locals := 149 } (va_Pc [.ref (a + 0), .int x1, .int x2, .int x3, .ref o] (PrL l E a o σ w)) (QzL E a o k r w) 3 18 (Aw a o) := by
  refine cw_of (by decide) (Nat.le_of_ble_eq_true rfl) ?_
  intro p e s m below meth c C hTb hN hW hOw hao hS ls hl
  have hx0 := C.1
  have hb := C.2.1
  have hl : lv_has ls 6 [(0, .ref (a + 0)), (1, .int x1), (2, .int x2), (3, .int x3), (4, .ref o)] := hl
  refine lv_aload hx0 hb dL_attach_0 (lv_at hl 4 rfl) ?_
  refine lv_iconst (v := (0 : Int32)) hx0 hb dL_attach_2 (by decide) ?_
  refine lv_aload_n hx0 hb dL_attach_3 rfl (lv_at hl 0 rfl) ?_
  refine lv_iload_n hx0 hb dL_attach_4 rfl (lv_at hl 1 rfl) ?_
  refine lv_iload_n hx0 hb dL_attach_5 rfl (lv_at hl 2 rfl) ?_
  refine lv_iload_n hx0 hb dL_attach_6 rfl (lv_at hl 3 rfl) ?_
  refine y_callV (L := LC E a) (k := 0) (As := [.int x1, .int x2, .int x3]) (rest := [.int (0 : Int32), .ref o]) C hW hS (fun q z => Or.inl z) (aw_od C.2.2.2.2.2.2.2.2 hW hao hS) (kdlt kd0 (by decide)) (ccX11 kd0) kcX11 (mX11_attach 0 x1 x2 x3 kd0 σ r h) cwX11_attach cvX11_attach rfl mlL_33 ⟨by decide, by decide⟩ rfl hl.1 (Nat.le_of_ble_eq_true rfl) ⟨by decide, by decide⟩ dL_attach_7 rfl (fun n en H locs q ce hW hS hz hf hq hv hc => ?_) (fun v ev H locs hW hS hz hf => ?_)
  · have hOw := hOw.kept (hf o hOw.lt (aw_ne hao))
    rcases hk with ⟨v9, e9, rfl⟩ | ⟨e9, rfl⟩ | ⟨e9, rfl⟩ | ⟨e9, rfl⟩
    · rw [e9] at en; cases en
    · rw [e9] at en
      cases en
      refine y_catch (n := 2) C hTb hN (by decide) 0 (x := (0, 12, 15, 28)) rfl [] rfl (fun j hj => by
          omega) (by decide) clL_28 (List.mem_of_getElem? (i := 1104) (by decide +kernel)) (by decide +kernel) hq hv hc ?_
      refine lv_astore (lv' := [(5, .ref q), (0, .ref (a + 0)), (1, .int x1), (2, .int x2), (3, .int x3), (4, .ref o)]) hx0 hb dL_attach_15 hl (by decide) rfl (fun ls hl => ?_)
      refine lv_iconst (v := (1 : Int32)) hx0 hb dL_attach_17 (by decide) ?_
      exact y_iret C hW (by rw [ou, e9]; exact hOw) hS (by decide) (by decide) dL_attach_18
    · rw [e9] at en
      cases en
      refine y_catch (n := 1) C hTb hN (by decide) 1 (x := (0, 12, 19, 19)) rfl [2] rfl (fun j hj => by
          rcases (show j = 0 by omega) with rfl
          · exact ⟨_, _, rfl, rfl, by decide, by decide, by decide, clL_28⟩) (by decide) clL_19 (List.mem_of_getElem? (i := 1062) (by decide +kernel)) (by decide +kernel) hq hv hc ?_
      refine lv_astore (lv' := [(5, .ref q), (0, .ref (a + 0)), (1, .int x1), (2, .int x2), (3, .int x3), (4, .ref o)]) hx0 hb dL_attach_19 hl (by decide) rfl (fun ls hl => ?_)
      refine lv_iconst (v := (2 : Int32)) hx0 hb dL_attach_21 (by decide) ?_
      exact y_iret C hW (by rw [ou, e9]; exact hOw) hS (by decide) (by decide) dL_attach_22
    · rw [e9] at en
      cases en
      refine y_catch (n := 0) C hTb hN (by decide) 2 (x := (0, 12, 23, 13)) rfl [2, 1] rfl (fun j hj => by
          rcases (show j = 0 ∨ j = 1 by omega) with rfl | rfl
          · exact ⟨_, _, rfl, rfl, by decide, by decide, by decide, clL_28⟩
          · exact ⟨_, _, rfl, rfl, by decide, by decide, by decide, clL_19⟩) (by decide) clL_13 (List.mem_of_getElem? (i := 981) (by decide +kernel)) (by decide +kernel) hq hv hc ?_
      refine lv_astore (lv' := [(5, .ref q), (0, .ref (a + 0)), (1, .int x1), (2, .int x2), (3, .int x3), (4, .ref o)]) hx0 hb dL_attach_23 hl (by decide) rfl (fun ls hl => ?_)
      refine lv_iconst (v := (3 : Int32)) hx0 hb dL_attach_25 (by decide) ?_
      exact y_iret C hW (by rw [ou, e9]; exact hOw) hS (by decide) (by decide) dL_attach_26
  · have hOw := hOw.kept (hf o hOw.lt (aw_ne hao))
    rcases hk with ⟨v9, e9, rfl⟩ | ⟨e9, rfl⟩ | ⟨e9, rfl⟩ | ⟨e9, rfl⟩
    · refine lv_i2l hx0 hb dL_attach_10 rfl ?_
      refine y_last C hW hOw hao hS dL_attach_11 (fun H locs hW hOw hS => ?_)
      refine lv_goto (tgt := 27) hx0 hb dL_attach_12 (by decide) ?_
      refine lv_iconst (v := (0 : Int32)) hx0 hb dL_attach_27 (by decide) ?_
      exact y_iret C hW (by rw [ou, ev]; exact hOw) hS (by decide) (by decide) dL_attach_28
    · rw [e9] at ev; cases ev
    · rw [e9] at ev; cases ev
    · rw [e9] at ev; cases ev
theorem cwL_detach : CWW yL_detach cL_detach 4 (some .int) [(0, 9, 12, 28), (0, 9, 15, 13)] 3 := ⟨tb_i 1151 (by decide +kernel) (by decide +kernel), iniL, by decide +kernel, by decide +kernel⟩
theorem csL_detach : Cond.static yL_detach ∈ tb := tb_i 1150 (by decide +kernel) (by decide +kernel)
set_option maxRecDepth 100000 in
set_option maxHeartbeats 4000000 in
theorem mL_detach {l : Launch} {E : Ev} {a o : Nat} (x1 : Int32) (σ : Mem) (r : Rx) (h : fX11_detach 0 x1 σ = some r) (w : Int64) (k : Int32) (hk : (∃ v, r.1 = .inr v ∧ k = 0) ∨ (r.1 = .inl 2 ∧ k = 1) ∨ (r.1 = .inl 0 ∧ k = 2)) : Met l yL_detach (twc yL_detach cL_detach 4 (some .int) [(0, 9, 12, 28), (0, 9, 15, 13)]) { frames := 8, cells := 2, slots := 12, locals := 147 } (va_Pc [.ref (a + 0), .int x1, .ref o] (PrL l E a o σ w)) (QzL E a o k r w) 2 12 (Aw a o) := by
  refine cw_of (by decide) (Nat.le_of_ble_eq_true rfl) ?_
  intro p e s m below meth c C hTb hN hW hOw hao hS ls hl
  have hx0 := C.1
  have hb := C.2.1
  have hl : lv_has ls 4 [(0, .ref (a + 0)), (1, .int x1), (2, .ref o)] := hl
  refine lv_aload_n hx0 hb dL_detach_0 rfl (lv_at hl 2 rfl) ?_
  refine lv_iconst (v := (0 : Int32)) hx0 hb dL_detach_1 (by decide) ?_
  refine lv_aload_n hx0 hb dL_detach_2 rfl (lv_at hl 0 rfl) ?_
  refine lv_iload_n hx0 hb dL_detach_3 rfl (lv_at hl 1 rfl) ?_
  refine y_callV (L := LC E a) (k := 0) (As := [.int x1]) (rest := [.int (0 : Int32), .ref o]) C hW hS (fun q z => Or.inl z) (aw_od C.2.2.2.2.2.2.2.2 hW hao hS) (kdlt kd0 (by decide)) (ccX11 kd0) kcX11 (mX11_detach 0 x1 kd0 σ r h) cwX11_detach cvX11_detach rfl mlL_37 ⟨by decide, by decide⟩ rfl hl.1 (Nat.le_of_ble_eq_true rfl) ⟨by decide, by decide⟩ dL_detach_4 rfl (fun n en H locs q ce hW hS hz hf hq hv hc => ?_) (fun v ev H locs hW hS hz hf => ?_)
  · have hOw := hOw.kept (hf o hOw.lt (aw_ne hao))
    rcases hk with ⟨v9, e9, rfl⟩ | ⟨e9, rfl⟩ | ⟨e9, rfl⟩
    · rw [e9] at en; cases en
    · rw [e9] at en
      cases en
      refine y_catch (n := 2) C hTb hN (by decide) 0 (x := (0, 9, 12, 28)) rfl [] rfl (fun j hj => by
          omega) (by decide) clL_28 (List.mem_of_getElem? (i := 1104) (by decide +kernel)) (by decide +kernel) hq hv hc ?_
      refine lv_astore_n (lv' := [(3, .ref q), (0, .ref (a + 0)), (1, .int x1), (2, .ref o)]) hx0 hb dL_detach_12 rfl hl (by decide) rfl (fun ls hl => ?_)
      refine lv_iconst (v := (1 : Int32)) hx0 hb dL_detach_13 (by decide) ?_
      exact y_iret C hW (by rw [ou, e9]; exact hOw) hS (by decide) (by decide) dL_detach_14
    · rw [e9] at en
      cases en
      refine y_catch (n := 0) C hTb hN (by decide) 1 (x := (0, 9, 15, 13)) rfl [2] rfl (fun j hj => by
          rcases (show j = 0 by omega) with rfl
          · exact ⟨_, _, rfl, rfl, by decide, by decide, by decide, clL_28⟩) (by decide) clL_13 (List.mem_of_getElem? (i := 981) (by decide +kernel)) (by decide +kernel) hq hv hc ?_
      refine lv_astore_n (lv' := [(3, .ref q), (0, .ref (a + 0)), (1, .int x1), (2, .ref o)]) hx0 hb dL_detach_15 rfl hl (by decide) rfl (fun ls hl => ?_)
      refine lv_iconst (v := (2 : Int32)) hx0 hb dL_detach_16 (by decide) ?_
      exact y_iret C hW (by rw [ou, e9]; exact hOw) hS (by decide) (by decide) dL_detach_17
  · have hOw := hOw.kept (hf o hOw.lt (aw_ne hao))
    rcases hk with ⟨v9, e9, rfl⟩ | ⟨e9, rfl⟩ | ⟨e9, rfl⟩
    · refine lv_i2l hx0 hb dL_detach_7 rfl ?_
      refine y_last C hW hOw hao hS dL_detach_8 (fun H locs hW hOw hS => ?_)
      refine lv_goto (tgt := 18) hx0 hb dL_detach_9 (by decide) ?_
      refine lv_iconst (v := (0 : Int32)) hx0 hb dL_detach_18 (by decide) ?_
      exact y_iret C hW (by rw [ou, ev]; exact hOw) hS (by decide) (by decide) dL_detach_19
    · rw [e9] at ev; cases ev
    · rw [e9] at ev; cases ev
theorem cwL_label : CWW yL_label cL_label 7 (some .int) [(0, 14, 17, 28), (0, 14, 21, 19), (0, 14, 25, 13)] 6 := ⟨tb_i 1180 (by decide +kernel) (by decide +kernel), iniL, by decide +kernel, by decide +kernel⟩
theorem csL_label : Cond.static yL_label ∈ tb := tb_i 1179 (by decide +kernel) (by decide +kernel)
set_option maxRecDepth 100000 in
set_option maxHeartbeats 4000000 in
theorem mL_label {l : Launch} {E : Ev} {a o : Nat} (x1 : Int32) (x2 : Int32) (x3 : Int32) (x4 : Int32) (σ : Mem) (r : Rx) (h : fX11_label 0 x1 x2 x3 x4 σ = some r) (w : Int64) (k : Int32) (hk : (∃ v, r.1 = .inr v ∧ k = 0) ∨ (r.1 = .inl 2 ∧ k = 1) ∨ (r.1 = .inl 1 ∧ k = 2) ∨ (r.1 = .inl 0 ∧ k = 3)) : Met l yL_label (twc yL_label cL_label 7 (some .int) [(0, 14, 17, 28), (0, 14, 21, 19), (0, 14, 25, 13)]) { frames := 8, cells := 3, slots := 18, locals := 150 } (va_Pc [.ref (a + 0), .int x1, .int x2, .int x3, .int x4, .ref o] (PrL l E a o σ w)) (QzL E a o k r w) 3 18 (Aw a o) := by
  refine cw_of (by decide) (Nat.le_of_ble_eq_true rfl) ?_
  intro p e s m below meth c C hTb hN hW hOw hao hS ls hl
  have hx0 := C.1
  have hb := C.2.1
  have hl : lv_has ls 7 [(0, .ref (a + 0)), (1, .int x1), (2, .int x2), (3, .int x3), (4, .int x4), (5, .ref o)] := hl
  refine lv_aload hx0 hb dL_label_0 (lv_at hl 5 rfl) ?_
  refine lv_iconst (v := (0 : Int32)) hx0 hb dL_label_2 (by decide) ?_
  refine lv_aload_n hx0 hb dL_label_3 rfl (lv_at hl 0 rfl) ?_
  refine lv_iload_n hx0 hb dL_label_4 rfl (lv_at hl 1 rfl) ?_
  refine lv_iload_n hx0 hb dL_label_5 rfl (lv_at hl 2 rfl) ?_
  refine lv_iload_n hx0 hb dL_label_6 rfl (lv_at hl 3 rfl) ?_
  refine lv_iload hx0 hb dL_label_7 (lv_at hl 4 rfl) ?_
  refine y_callV (L := LC E a) (k := 0) (As := [.int x1, .int x2, .int x3, .int x4]) (rest := [.int (0 : Int32), .ref o]) C hW hS (fun q z => Or.inl z) (aw_od C.2.2.2.2.2.2.2.2 hW hao hS) (kdlt kd0 (by decide)) (ccX11 kd0) kcX11 (mX11_label 0 x1 x2 x3 x4 kd0 σ r h) cwX11_label cvX11_label rfl mlL_40 ⟨by decide, by decide⟩ rfl hl.1 (Nat.le_of_ble_eq_true rfl) ⟨by decide, by decide⟩ dL_label_9 rfl (fun n en H locs q ce hW hS hz hf hq hv hc => ?_) (fun v ev H locs hW hS hz hf => ?_)
  · have hOw := hOw.kept (hf o hOw.lt (aw_ne hao))
    rcases hk with ⟨v9, e9, rfl⟩ | ⟨e9, rfl⟩ | ⟨e9, rfl⟩ | ⟨e9, rfl⟩
    · rw [e9] at en; cases en
    · rw [e9] at en
      cases en
      refine y_catch (n := 2) C hTb hN (by decide) 0 (x := (0, 14, 17, 28)) rfl [] rfl (fun j hj => by
          omega) (by decide) clL_28 (List.mem_of_getElem? (i := 1104) (by decide +kernel)) (by decide +kernel) hq hv hc ?_
      refine lv_astore (lv' := [(6, .ref q), (0, .ref (a + 0)), (1, .int x1), (2, .int x2), (3, .int x3), (4, .int x4), (5, .ref o)]) hx0 hb dL_label_17 hl (by decide) rfl (fun ls hl => ?_)
      refine lv_iconst (v := (1 : Int32)) hx0 hb dL_label_19 (by decide) ?_
      exact y_iret C hW (by rw [ou, e9]; exact hOw) hS (by decide) (by decide) dL_label_20
    · rw [e9] at en
      cases en
      refine y_catch (n := 1) C hTb hN (by decide) 1 (x := (0, 14, 21, 19)) rfl [2] rfl (fun j hj => by
          rcases (show j = 0 by omega) with rfl
          · exact ⟨_, _, rfl, rfl, by decide, by decide, by decide, clL_28⟩) (by decide) clL_19 (List.mem_of_getElem? (i := 1062) (by decide +kernel)) (by decide +kernel) hq hv hc ?_
      refine lv_astore (lv' := [(6, .ref q), (0, .ref (a + 0)), (1, .int x1), (2, .int x2), (3, .int x3), (4, .int x4), (5, .ref o)]) hx0 hb dL_label_21 hl (by decide) rfl (fun ls hl => ?_)
      refine lv_iconst (v := (2 : Int32)) hx0 hb dL_label_23 (by decide) ?_
      exact y_iret C hW (by rw [ou, e9]; exact hOw) hS (by decide) (by decide) dL_label_24
    · rw [e9] at en
      cases en
      refine y_catch (n := 0) C hTb hN (by decide) 2 (x := (0, 14, 25, 13)) rfl [2, 1] rfl (fun j hj => by
          rcases (show j = 0 ∨ j = 1 by omega) with rfl | rfl
          · exact ⟨_, _, rfl, rfl, by decide, by decide, by decide, clL_28⟩
          · exact ⟨_, _, rfl, rfl, by decide, by decide, by decide, clL_19⟩) (by decide) clL_13 (List.mem_of_getElem? (i := 981) (by decide +kernel)) (by decide +kernel) hq hv hc ?_
      refine lv_astore (lv' := [(6, .ref q), (0, .ref (a + 0)), (1, .int x1), (2, .int x2), (3, .int x3), (4, .int x4), (5, .ref o)]) hx0 hb dL_label_25 hl (by decide) rfl (fun ls hl => ?_)
      refine lv_iconst (v := (3 : Int32)) hx0 hb dL_label_27 (by decide) ?_
      exact y_iret C hW (by rw [ou, e9]; exact hOw) hS (by decide) (by decide) dL_label_28
  · have hOw := hOw.kept (hf o hOw.lt (aw_ne hao))
    rcases hk with ⟨v9, e9, rfl⟩ | ⟨e9, rfl⟩ | ⟨e9, rfl⟩ | ⟨e9, rfl⟩
    · refine lv_i2l hx0 hb dL_label_12 rfl ?_
      refine y_last C hW hOw hao hS dL_label_13 (fun H locs hW hOw hS => ?_)
      refine lv_goto (tgt := 29) hx0 hb dL_label_14 (by decide) ?_
      refine lv_iconst (v := (0 : Int32)) hx0 hb dL_label_29 (by decide) ?_
      exact y_iret C hW (by rw [ou, ev]; exact hOw) hS (by decide) (by decide) dL_label_30
    · rw [e9] at ev; cases ev
    · rw [e9] at ev; cases ev
    · rw [e9] at ev; cases ev
theorem cwL_scanLeaf : CWW yL_scanLeaf cL_scanLeaf 5 (some .int) [(0, 10, 13, 28), (0, 10, 17, 19), (0, 10, 21, 13)] 4 := ⟨tb_i 1196 (by decide +kernel) (by decide +kernel), iniL, by decide +kernel, by decide +kernel⟩
theorem csL_scanLeaf : Cond.static yL_scanLeaf ∈ tb := tb_i 1195 (by decide +kernel) (by decide +kernel)
set_option maxRecDepth 100000 in
set_option maxHeartbeats 4000000 in
theorem mL_scanLeaf {l : Launch} {E : Ev} {a o : Nat} (x1 : Int32) (x2 : Int32) (σ : Mem) (r : Rx) (h : fX11_scanLeaf 0 x1 x2 σ = some r) (w : Int64) (k : Int32) (hk : (∃ v, r.1 = .inr v ∧ k = 0) ∨ (r.1 = .inl 2 ∧ k = 1) ∨ (r.1 = .inl 1 ∧ k = 2) ∨ (r.1 = .inl 0 ∧ k = 3)) : Met l yL_scanLeaf (twc yL_scanLeaf cL_scanLeaf 5 (some .int) [(0, 10, 13, 28), (0, 10, 17, 19), (0, 10, 21, 13)]) { frames := 8, cells := 4, slots := 24, locals := 171 } (va_Pc [.ref (a + 0), .int x1, .int x2, .ref o] (PrL l E a o σ w)) (QzL E a o k r w) 4 24 (Aw a o) := by
  refine cw_of (by decide) (Nat.le_of_ble_eq_true rfl) ?_
  intro p e s m below meth c C hTb hN hW hOw hao hS ls hl
  have hx0 := C.1
  have hb := C.2.1
  have hl : lv_has ls 5 [(0, .ref (a + 0)), (1, .int x1), (2, .int x2), (3, .ref o)] := hl
  refine lv_aload_n hx0 hb dL_scanLeaf_0 rfl (lv_at hl 3 rfl) ?_
  refine lv_iconst (v := (0 : Int32)) hx0 hb dL_scanLeaf_1 (by decide) ?_
  refine lv_aload_n hx0 hb dL_scanLeaf_2 rfl (lv_at hl 0 rfl) ?_
  refine lv_iload_n hx0 hb dL_scanLeaf_3 rfl (lv_at hl 1 rfl) ?_
  refine lv_iload_n hx0 hb dL_scanLeaf_4 rfl (lv_at hl 2 rfl) ?_
  refine y_callV (L := LC E a) (k := 0) (As := [.int x1, .int x2]) (rest := [.int (0 : Int32), .ref o]) C hW hS (fun q z => Or.inl z) (aw_od C.2.2.2.2.2.2.2.2 hW hao hS) (kdlt kd0 (by decide)) (ccX11 kd0) kcX11 (mX11_scanLeaf 0 x1 x2 kd0 σ r h) cwX11_scanLeaf cvX11_scanLeaf rfl mlL_44 ⟨by decide, by decide⟩ rfl hl.1 (Nat.le_of_ble_eq_true rfl) ⟨by decide, by decide⟩ dL_scanLeaf_5 rfl (fun n en H locs q ce hW hS hz hf hq hv hc => ?_) (fun v ev H locs hW hS hz hf => ?_)
  · have hOw := hOw.kept (hf o hOw.lt (aw_ne hao))
    rcases hk with ⟨v9, e9, rfl⟩ | ⟨e9, rfl⟩ | ⟨e9, rfl⟩ | ⟨e9, rfl⟩
    · rw [e9] at en; cases en
    · rw [e9] at en
      cases en
      refine y_catch (n := 2) C hTb hN (by decide) 0 (x := (0, 10, 13, 28)) rfl [] rfl (fun j hj => by
          omega) (by decide) clL_28 (List.mem_of_getElem? (i := 1104) (by decide +kernel)) (by decide +kernel) hq hv hc ?_
      refine lv_astore (lv' := [(4, .ref q), (0, .ref (a + 0)), (1, .int x1), (2, .int x2), (3, .ref o)]) hx0 hb dL_scanLeaf_13 hl (by decide) rfl (fun ls hl => ?_)
      refine lv_iconst (v := (1 : Int32)) hx0 hb dL_scanLeaf_15 (by decide) ?_
      exact y_iret C hW (by rw [ou, e9]; exact hOw) hS (by decide) (by decide) dL_scanLeaf_16
    · rw [e9] at en
      cases en
      refine y_catch (n := 1) C hTb hN (by decide) 1 (x := (0, 10, 17, 19)) rfl [2] rfl (fun j hj => by
          rcases (show j = 0 by omega) with rfl
          · exact ⟨_, _, rfl, rfl, by decide, by decide, by decide, clL_28⟩) (by decide) clL_19 (List.mem_of_getElem? (i := 1062) (by decide +kernel)) (by decide +kernel) hq hv hc ?_
      refine lv_astore (lv' := [(4, .ref q), (0, .ref (a + 0)), (1, .int x1), (2, .int x2), (3, .ref o)]) hx0 hb dL_scanLeaf_17 hl (by decide) rfl (fun ls hl => ?_)
      refine lv_iconst (v := (2 : Int32)) hx0 hb dL_scanLeaf_19 (by decide) ?_
      exact y_iret C hW (by rw [ou, e9]; exact hOw) hS (by decide) (by decide) dL_scanLeaf_20
    · rw [e9] at en
      cases en
      refine y_catch (n := 0) C hTb hN (by decide) 2 (x := (0, 10, 21, 13)) rfl [2, 1] rfl (fun j hj => by
          rcases (show j = 0 ∨ j = 1 by omega) with rfl | rfl
          · exact ⟨_, _, rfl, rfl, by decide, by decide, by decide, clL_28⟩
          · exact ⟨_, _, rfl, rfl, by decide, by decide, by decide, clL_19⟩) (by decide) clL_13 (List.mem_of_getElem? (i := 981) (by decide +kernel)) (by decide +kernel) hq hv hc ?_
      refine lv_astore (lv' := [(4, .ref q), (0, .ref (a + 0)), (1, .int x1), (2, .int x2), (3, .ref o)]) hx0 hb dL_scanLeaf_21 hl (by decide) rfl (fun ls hl => ?_)
      refine lv_iconst (v := (3 : Int32)) hx0 hb dL_scanLeaf_23 (by decide) ?_
      exact y_iret C hW (by rw [ou, e9]; exact hOw) hS (by decide) (by decide) dL_scanLeaf_24
  · have hOw := hOw.kept (hf o hOw.lt (aw_ne hao))
    rcases hk with ⟨v9, e9, rfl⟩ | ⟨e9, rfl⟩ | ⟨e9, rfl⟩ | ⟨e9, rfl⟩
    · refine lv_i2l hx0 hb dL_scanLeaf_8 rfl ?_
      refine y_last C hW hOw hao hS dL_scanLeaf_9 (fun H locs hW hOw hS => ?_)
      refine lv_goto (tgt := 25) hx0 hb dL_scanLeaf_10 (by decide) ?_
      refine lv_iconst (v := (0 : Int32)) hx0 hb dL_scanLeaf_25 (by decide) ?_
      exact y_iret C hW (by rw [ou, ev]; exact hOw) hS (by decide) (by decide) dL_scanLeaf_26
    · rw [e9] at ev; cases ev
    · rw [e9] at ev; cases ev
    · rw [e9] at ev; cases ev
theorem cwL_scanOpening : CWW yL_scanOpening cL_scanOpening 4 (some .int) [(0, 9, 12, 28), (0, 9, 15, 13)] 3 := ⟨tb_i 1218 (by decide +kernel) (by decide +kernel), iniL, by decide +kernel, by decide +kernel⟩
theorem csL_scanOpening : Cond.static yL_scanOpening ∈ tb := tb_i 1217 (by decide +kernel) (by decide +kernel)
set_option maxRecDepth 100000 in
set_option maxHeartbeats 4000000 in
theorem mL_scanOpening {l : Launch} {E : Ev} {a o : Nat} (x1 : Int32) (σ : Mem) (r : Rx) (h : fX11_scanOpening 0 x1 σ = some r) (w : Int64) (k : Int32) (hk : (∃ v, r.1 = .inr v ∧ k = 0) ∨ (r.1 = .inl 2 ∧ k = 1) ∨ (r.1 = .inl 0 ∧ k = 2)) : Met l yL_scanOpening (twc yL_scanOpening cL_scanOpening 4 (some .int) [(0, 9, 12, 28), (0, 9, 15, 13)]) { frames := 8, cells := 3, slots := 18, locals := 172 } (va_Pc [.ref (a + 0), .int x1, .ref o] (PrL l E a o σ w)) (QzL E a o k r w) 3 18 (Aw a o) := by
  refine cw_of (by decide) (Nat.le_of_ble_eq_true rfl) ?_
  intro p e s m below meth c C hTb hN hW hOw hao hS ls hl
  have hx0 := C.1
  have hb := C.2.1
  have hl : lv_has ls 4 [(0, .ref (a + 0)), (1, .int x1), (2, .ref o)] := hl
  refine lv_aload_n hx0 hb dL_scanOpening_0 rfl (lv_at hl 2 rfl) ?_
  refine lv_iconst (v := (0 : Int32)) hx0 hb dL_scanOpening_1 (by decide) ?_
  refine lv_aload_n hx0 hb dL_scanOpening_2 rfl (lv_at hl 0 rfl) ?_
  refine lv_iload_n hx0 hb dL_scanOpening_3 rfl (lv_at hl 1 rfl) ?_
  refine y_callV (L := LC E a) (k := 0) (As := [.int x1]) (rest := [.int (0 : Int32), .ref o]) C hW hS (fun q z => Or.inl z) (aw_od C.2.2.2.2.2.2.2.2 hW hao hS) (kdlt kd0 (by decide)) (ccX11 kd0) kcX11 (mX11_scanOpening 0 x1 kd0 σ r h) cwX11_scanOpening cvX11_scanOpening rfl mlL_48 ⟨by decide, by decide⟩ rfl hl.1 (Nat.le_of_ble_eq_true rfl) ⟨by decide, by decide⟩ dL_scanOpening_4 rfl (fun n en H locs q ce hW hS hz hf hq hv hc => ?_) (fun v ev H locs hW hS hz hf => ?_)
  · have hOw := hOw.kept (hf o hOw.lt (aw_ne hao))
    rcases hk with ⟨v9, e9, rfl⟩ | ⟨e9, rfl⟩ | ⟨e9, rfl⟩
    · rw [e9] at en; cases en
    · rw [e9] at en
      cases en
      refine y_catch (n := 2) C hTb hN (by decide) 0 (x := (0, 9, 12, 28)) rfl [] rfl (fun j hj => by
          omega) (by decide) clL_28 (List.mem_of_getElem? (i := 1104) (by decide +kernel)) (by decide +kernel) hq hv hc ?_
      refine lv_astore_n (lv' := [(3, .ref q), (0, .ref (a + 0)), (1, .int x1), (2, .ref o)]) hx0 hb dL_scanOpening_12 rfl hl (by decide) rfl (fun ls hl => ?_)
      refine lv_iconst (v := (1 : Int32)) hx0 hb dL_scanOpening_13 (by decide) ?_
      exact y_iret C hW (by rw [ou, e9]; exact hOw) hS (by decide) (by decide) dL_scanOpening_14
    · rw [e9] at en
      cases en
      refine y_catch (n := 0) C hTb hN (by decide) 1 (x := (0, 9, 15, 13)) rfl [2] rfl (fun j hj => by
          rcases (show j = 0 by omega) with rfl
          · exact ⟨_, _, rfl, rfl, by decide, by decide, by decide, clL_28⟩) (by decide) clL_13 (List.mem_of_getElem? (i := 981) (by decide +kernel)) (by decide +kernel) hq hv hc ?_
      refine lv_astore_n (lv' := [(3, .ref q), (0, .ref (a + 0)), (1, .int x1), (2, .ref o)]) hx0 hb dL_scanOpening_15 rfl hl (by decide) rfl (fun ls hl => ?_)
      refine lv_iconst (v := (2 : Int32)) hx0 hb dL_scanOpening_16 (by decide) ?_
      exact y_iret C hW (by rw [ou, e9]; exact hOw) hS (by decide) (by decide) dL_scanOpening_17
  · have hOw := hOw.kept (hf o hOw.lt (aw_ne hao))
    rcases hk with ⟨v9, e9, rfl⟩ | ⟨e9, rfl⟩ | ⟨e9, rfl⟩
    · refine lv_i2l hx0 hb dL_scanOpening_7 rfl ?_
      refine y_last C hW hOw hao hS dL_scanOpening_8 (fun H locs hW hOw hS => ?_)
      refine lv_goto (tgt := 18) hx0 hb dL_scanOpening_9 (by decide) ?_
      refine lv_iconst (v := (0 : Int32)) hx0 hb dL_scanOpening_18 (by decide) ?_
      exact y_iret C hW (by rw [ou, ev]; exact hOw) hS (by decide) (by decide) dL_scanOpening_19
    · rw [e9] at ev; cases ev
    · rw [e9] at ev; cases ev
theorem cwL_scanSlip : CWW yL_scanSlip cL_scanSlip 5 (some .int) [(0, 10, 13, 28), (0, 10, 17, 13)] 4 := ⟨tb_i 1243 (by decide +kernel) (by decide +kernel), iniL, by decide +kernel, by decide +kernel⟩
theorem csL_scanSlip : Cond.static yL_scanSlip ∈ tb := tb_i 1242 (by decide +kernel) (by decide +kernel)
set_option maxRecDepth 100000 in
set_option maxHeartbeats 4000000 in
theorem mL_scanSlip {l : Launch} {E : Ev} {a o : Nat} (x1 : Int32) (x2 : Int32) (σ : Mem) (r : Rx) (h : fX11_scanSlip 0 x1 x2 σ = some r) (w : Int64) (k : Int32) (hk : (∃ v, r.1 = .inr v ∧ k = 0) ∨ (r.1 = .inl 2 ∧ k = 1) ∨ (r.1 = .inl 0 ∧ k = 2)) : Met l yL_scanSlip (twc yL_scanSlip cL_scanSlip 5 (some .int) [(0, 10, 13, 28), (0, 10, 17, 13)]) { frames := 8, cells := 4, slots := 24, locals := 171 } (va_Pc [.ref (a + 0), .int x1, .int x2, .ref o] (PrL l E a o σ w)) (QzL E a o k r w) 4 24 (Aw a o) := by
  refine cw_of (by decide) (Nat.le_of_ble_eq_true rfl) ?_
  intro p e s m below meth c C hTb hN hW hOw hao hS ls hl
  have hx0 := C.1
  have hb := C.2.1
  have hl : lv_has ls 5 [(0, .ref (a + 0)), (1, .int x1), (2, .int x2), (3, .ref o)] := hl
  refine lv_aload_n hx0 hb dL_scanSlip_0 rfl (lv_at hl 3 rfl) ?_
  refine lv_iconst (v := (0 : Int32)) hx0 hb dL_scanSlip_1 (by decide) ?_
  refine lv_aload_n hx0 hb dL_scanSlip_2 rfl (lv_at hl 0 rfl) ?_
  refine lv_iload_n hx0 hb dL_scanSlip_3 rfl (lv_at hl 1 rfl) ?_
  refine lv_iload_n hx0 hb dL_scanSlip_4 rfl (lv_at hl 2 rfl) ?_
  refine y_callV (L := LC E a) (k := 0) (As := [.int x1, .int x2]) (rest := [.int (0 : Int32), .ref o]) C hW hS (fun q z => Or.inl z) (aw_od C.2.2.2.2.2.2.2.2 hW hao hS) (kdlt kd0 (by decide)) (ccX11 kd0) kcX11 (mX11_scanSlip 0 x1 x2 kd0 σ r h) cwX11_scanSlip cvX11_scanSlip rfl mlL_51 ⟨by decide, by decide⟩ rfl hl.1 (Nat.le_of_ble_eq_true rfl) ⟨by decide, by decide⟩ dL_scanSlip_5 rfl (fun n en H locs q ce hW hS hz hf hq hv hc => ?_) (fun v ev H locs hW hS hz hf => ?_)
  · have hOw := hOw.kept (hf o hOw.lt (aw_ne hao))
    rcases hk with ⟨v9, e9, rfl⟩ | ⟨e9, rfl⟩ | ⟨e9, rfl⟩
    · rw [e9] at en; cases en
    · rw [e9] at en
      cases en
      refine y_catch (n := 2) C hTb hN (by decide) 0 (x := (0, 10, 13, 28)) rfl [] rfl (fun j hj => by
          omega) (by decide) clL_28 (List.mem_of_getElem? (i := 1104) (by decide +kernel)) (by decide +kernel) hq hv hc ?_
      refine lv_astore (lv' := [(4, .ref q), (0, .ref (a + 0)), (1, .int x1), (2, .int x2), (3, .ref o)]) hx0 hb dL_scanSlip_13 hl (by decide) rfl (fun ls hl => ?_)
      refine lv_iconst (v := (1 : Int32)) hx0 hb dL_scanSlip_15 (by decide) ?_
      exact y_iret C hW (by rw [ou, e9]; exact hOw) hS (by decide) (by decide) dL_scanSlip_16
    · rw [e9] at en
      cases en
      refine y_catch (n := 0) C hTb hN (by decide) 1 (x := (0, 10, 17, 13)) rfl [2] rfl (fun j hj => by
          rcases (show j = 0 by omega) with rfl
          · exact ⟨_, _, rfl, rfl, by decide, by decide, by decide, clL_28⟩) (by decide) clL_13 (List.mem_of_getElem? (i := 981) (by decide +kernel)) (by decide +kernel) hq hv hc ?_
      refine lv_astore (lv' := [(4, .ref q), (0, .ref (a + 0)), (1, .int x1), (2, .int x2), (3, .ref o)]) hx0 hb dL_scanSlip_17 hl (by decide) rfl (fun ls hl => ?_)
      refine lv_iconst (v := (2 : Int32)) hx0 hb dL_scanSlip_19 (by decide) ?_
      exact y_iret C hW (by rw [ou, e9]; exact hOw) hS (by decide) (by decide) dL_scanSlip_20
  · have hOw := hOw.kept (hf o hOw.lt (aw_ne hao))
    rcases hk with ⟨v9, e9, rfl⟩ | ⟨e9, rfl⟩ | ⟨e9, rfl⟩
    · refine lv_i2l hx0 hb dL_scanSlip_8 rfl ?_
      refine y_last C hW hOw hao hS dL_scanSlip_9 (fun H locs hW hOw hS => ?_)
      refine lv_goto (tgt := 21) hx0 hb dL_scanSlip_10 (by decide) ?_
      refine lv_iconst (v := (0 : Int32)) hx0 hb dL_scanSlip_21 (by decide) ?_
      exact y_iret C hW (by rw [ou, ev]; exact hOw) hS (by decide) (by decide) dL_scanSlip_22
    · rw [e9] at ev; cases ev
    · rw [e9] at ev; cases ev
theorem cwL_removeScan : CWW yL_removeScan cL_removeScan 4 (some .int) [(0, 9, 12, 28)] 3 := ⟨tb_i 1252 (by decide +kernel) (by decide +kernel), iniL, by decide +kernel, by decide +kernel⟩
theorem csL_removeScan : Cond.static yL_removeScan ∈ tb := tb_i 1251 (by decide +kernel) (by decide +kernel)
set_option maxRecDepth 100000 in
set_option maxHeartbeats 4000000 in
theorem mL_removeScan {l : Launch} {E : Ev} {a o : Nat} (x1 : Int32) (σ : Mem) (r : Rx) (h : fX11_removeScan 0 x1 σ = some r) (w : Int64) (k : Int32) (hk : (∃ v, r.1 = .inr v ∧ k = 0) ∨ (r.1 = .inl 2 ∧ k = 1)) : Met l yL_removeScan (twc yL_removeScan cL_removeScan 4 (some .int) [(0, 9, 12, 28)]) { frames := 8, cells := 1, slots := 6, locals := 148 } (va_Pc [.ref (a + 0), .int x1, .ref o] (PrL l E a o σ w)) (QzL E a o k r w) 1 6 (Aw a o) := by
  refine cw_of (by decide) (Nat.le_of_ble_eq_true rfl) ?_
  intro p e s m below meth c C hTb hN hW hOw hao hS ls hl
  have hx0 := C.1
  have hb := C.2.1
  have hl : lv_has ls 4 [(0, .ref (a + 0)), (1, .int x1), (2, .ref o)] := hl
  refine lv_aload_n hx0 hb dL_removeScan_0 rfl (lv_at hl 2 rfl) ?_
  refine lv_iconst (v := (0 : Int32)) hx0 hb dL_removeScan_1 (by decide) ?_
  refine lv_aload_n hx0 hb dL_removeScan_2 rfl (lv_at hl 0 rfl) ?_
  refine lv_iload_n hx0 hb dL_removeScan_3 rfl (lv_at hl 1 rfl) ?_
  refine y_callV (L := LC E a) (k := 0) (As := [.int x1]) (rest := [.int (0 : Int32), .ref o]) C hW hS (fun q z => Or.inl z) (aw_od C.2.2.2.2.2.2.2.2 hW hao hS) (kdlt kd0 (by decide)) (ccX11 kd0) kcX11 (mX11_removeScan 0 x1 kd0 σ r h) cwX11_removeScan cvX11_removeScan rfl mlL_54 ⟨by decide, by decide⟩ rfl hl.1 (Nat.le_of_ble_eq_true rfl) ⟨by decide, by decide⟩ dL_removeScan_4 rfl (fun n en H locs q ce hW hS hz hf hq hv hc => ?_) (fun v ev H locs hW hS hz hf => ?_)
  · have hOw := hOw.kept (hf o hOw.lt (aw_ne hao))
    rcases hk with ⟨v9, e9, rfl⟩ | ⟨e9, rfl⟩
    · rw [e9] at en; cases en
    · rw [e9] at en
      cases en
      refine y_catch (n := 2) C hTb hN (by decide) 0 (x := (0, 9, 12, 28)) rfl [] rfl (fun j hj => by
          omega) (by decide) clL_28 (List.mem_of_getElem? (i := 1104) (by decide +kernel)) (by decide +kernel) hq hv hc ?_
      refine lv_astore_n (lv' := [(3, .ref q), (0, .ref (a + 0)), (1, .int x1), (2, .ref o)]) hx0 hb dL_removeScan_12 rfl hl (by decide) rfl (fun ls hl => ?_)
      refine lv_iconst (v := (1 : Int32)) hx0 hb dL_removeScan_13 (by decide) ?_
      exact y_iret C hW (by rw [ou, e9]; exact hOw) hS (by decide) (by decide) dL_removeScan_14
  · have hOw := hOw.kept (hf o hOw.lt (aw_ne hao))
    rcases hk with ⟨v9, e9, rfl⟩ | ⟨e9, rfl⟩
    · refine lv_i2l hx0 hb dL_removeScan_7 rfl ?_
      refine y_last C hW hOw hao hS dL_removeScan_8 (fun H locs hW hOw hS => ?_)
      refine lv_goto (tgt := 15) hx0 hb dL_removeScan_9 (by decide) ?_
      refine lv_iconst (v := (0 : Int32)) hx0 hb dL_removeScan_15 (by decide) ?_
      exact y_iret C hW (by rw [ou, ev]; exact hOw) hS (by decide) (by decide) dL_removeScan_16
    · rw [e9] at ev; cases ev
theorem cwL_moveScan : CWW yL_moveScan cL_moveScan 5 (some .int) [(0, 10, 13, 28)] 4 := ⟨tb_i 1273 (by decide +kernel) (by decide +kernel), iniL, by decide +kernel, by decide +kernel⟩
theorem csL_moveScan : Cond.static yL_moveScan ∈ tb := tb_i 1272 (by decide +kernel) (by decide +kernel)
set_option maxRecDepth 100000 in
set_option maxHeartbeats 4000000 in
theorem mL_moveScan {l : Launch} {E : Ev} {a o : Nat} (x1 : Int32) (x2 : Int32) (σ : Mem) (r : Rx) (h : fX11_moveScan 0 x1 x2 σ = some r) (w : Int64) (k : Int32) (hk : (∃ v, r.1 = .inr v ∧ k = 0) ∨ (r.1 = .inl 2 ∧ k = 1)) : Met l yL_moveScan (twc yL_moveScan cL_moveScan 5 (some .int) [(0, 10, 13, 28)]) { frames := 8, cells := 2, slots := 12, locals := 155 } (va_Pc [.ref (a + 0), .int x1, .int x2, .ref o] (PrL l E a o σ w)) (QzL E a o k r w) 2 12 (Aw a o) := by
  refine cw_of (by decide) (Nat.le_of_ble_eq_true rfl) ?_
  intro p e s m below meth c C hTb hN hW hOw hao hS ls hl
  have hx0 := C.1
  have hb := C.2.1
  have hl : lv_has ls 5 [(0, .ref (a + 0)), (1, .int x1), (2, .int x2), (3, .ref o)] := hl
  refine lv_aload_n hx0 hb dL_moveScan_0 rfl (lv_at hl 3 rfl) ?_
  refine lv_iconst (v := (0 : Int32)) hx0 hb dL_moveScan_1 (by decide) ?_
  refine lv_aload_n hx0 hb dL_moveScan_2 rfl (lv_at hl 0 rfl) ?_
  refine lv_iload_n hx0 hb dL_moveScan_3 rfl (lv_at hl 1 rfl) ?_
  refine lv_iload_n hx0 hb dL_moveScan_4 rfl (lv_at hl 2 rfl) ?_
  refine y_callV (L := LC E a) (k := 0) (As := [.int x1, .int x2]) (rest := [.int (0 : Int32), .ref o]) C hW hS (fun q z => Or.inl z) (aw_od C.2.2.2.2.2.2.2.2 hW hao hS) (kdlt kd0 (by decide)) (ccX11 kd0) kcX11 (mX11_moveScan 0 x1 x2 kd0 σ r h) cwX11_moveScan cvX11_moveScan rfl mlL_57 ⟨by decide, by decide⟩ rfl hl.1 (Nat.le_of_ble_eq_true rfl) ⟨by decide, by decide⟩ dL_moveScan_5 rfl (fun n en H locs q ce hW hS hz hf hq hv hc => ?_) (fun v ev H locs hW hS hz hf => ?_)
  · have hOw := hOw.kept (hf o hOw.lt (aw_ne hao))
    rcases hk with ⟨v9, e9, rfl⟩ | ⟨e9, rfl⟩
    · rw [e9] at en; cases en
    · rw [e9] at en
      cases en
      refine y_catch (n := 2) C hTb hN (by decide) 0 (x := (0, 10, 13, 28)) rfl [] rfl (fun j hj => by
          omega) (by decide) clL_28 (List.mem_of_getElem? (i := 1104) (by decide +kernel)) (by decide +kernel) hq hv hc ?_
      refine lv_astore (lv' := [(4, .ref q), (0, .ref (a + 0)), (1, .int x1), (2, .int x2), (3, .ref o)]) hx0 hb dL_moveScan_13 hl (by decide) rfl (fun ls hl => ?_)
      refine lv_iconst (v := (1 : Int32)) hx0 hb dL_moveScan_15 (by decide) ?_
      exact y_iret C hW (by rw [ou, e9]; exact hOw) hS (by decide) (by decide) dL_moveScan_16
  · have hOw := hOw.kept (hf o hOw.lt (aw_ne hao))
    rcases hk with ⟨v9, e9, rfl⟩ | ⟨e9, rfl⟩
    · refine lv_i2l hx0 hb dL_moveScan_8 rfl ?_
      refine y_last C hW hOw hao hS dL_moveScan_9 (fun H locs hW hOw hS => ?_)
      refine lv_goto (tgt := 17) hx0 hb dL_moveScan_10 (by decide) ?_
      refine lv_iconst (v := (0 : Int32)) hx0 hb dL_moveScan_17 (by decide) ?_
      exact y_iret C hW (by rw [ou, ev]; exact hOw) hS (by decide) (by decide) dL_moveScan_18
    · rw [e9] at ev; cases ev
theorem cwL_turn : CWW yL_turn cL_turn 4 (some .int) [(0, 9, 12, 19), (0, 9, 15, 13)] 3 := ⟨tb_i 1282 (by decide +kernel) (by decide +kernel), iniL, by decide +kernel, by decide +kernel⟩
theorem csL_turn : Cond.static yL_turn ∈ tb := tb_i 1281 (by decide +kernel) (by decide +kernel)
set_option maxRecDepth 100000 in
set_option maxHeartbeats 4000000 in
theorem mL_turn {l : Launch} {E : Ev} {a o : Nat} (x1 : Int32) (σ : Mem) (r : Rx) (h : fX11_turn 0 x1 σ = some r) (w : Int64) (k : Int32) (hk : (∃ v, r.1 = .inr v ∧ k = 0) ∨ (r.1 = .inl 1 ∧ k = 1) ∨ (r.1 = .inl 0 ∧ k = 2)) : Met l yL_turn (twc yL_turn cL_turn 4 (some .int) [(0, 9, 12, 19), (0, 9, 15, 13)]) { frames := 7, cells := 1, slots := 6, locals := 149 } (va_Pc [.ref (a + 0), .int x1, .ref o] (PrL l E a o σ w)) (QzL E a o k r w) 1 6 (Aw a o) := by
  refine cw_of (by decide) (Nat.le_of_ble_eq_true rfl) ?_
  intro p e s m below meth c C hTb hN hW hOw hao hS ls hl
  have hx0 := C.1
  have hb := C.2.1
  have hl : lv_has ls 4 [(0, .ref (a + 0)), (1, .int x1), (2, .ref o)] := hl
  refine lv_aload_n hx0 hb dL_turn_0 rfl (lv_at hl 2 rfl) ?_
  refine lv_iconst (v := (0 : Int32)) hx0 hb dL_turn_1 (by decide) ?_
  refine lv_aload_n hx0 hb dL_turn_2 rfl (lv_at hl 0 rfl) ?_
  refine lv_iload_n hx0 hb dL_turn_3 rfl (lv_at hl 1 rfl) ?_
  refine y_callV (L := LC E a) (k := 0) (As := [.int x1]) (rest := [.int (0 : Int32), .ref o]) C hW hS (fun q z => Or.inl z) (aw_od C.2.2.2.2.2.2.2.2 hW hao hS) (kdlt kd0 (by decide)) (ccX11 kd0) kcX11 (mX11_turn 0 x1 kd0 σ r h) cwX11_turn cvX11_turn rfl mlL_60 ⟨by decide, by decide⟩ rfl hl.1 (Nat.le_of_ble_eq_true rfl) ⟨by decide, by decide⟩ dL_turn_4 rfl (fun n en H locs q ce hW hS hz hf hq hv hc => ?_) (fun v ev H locs hW hS hz hf => ?_)
  · have hOw := hOw.kept (hf o hOw.lt (aw_ne hao))
    rcases hk with ⟨v9, e9, rfl⟩ | ⟨e9, rfl⟩ | ⟨e9, rfl⟩
    · rw [e9] at en; cases en
    · rw [e9] at en
      cases en
      refine y_catch (n := 1) C hTb hN (by decide) 0 (x := (0, 9, 12, 19)) rfl [] rfl (fun j hj => by
          omega) (by decide) clL_19 (List.mem_of_getElem? (i := 1062) (by decide +kernel)) (by decide +kernel) hq hv hc ?_
      refine lv_astore_n (lv' := [(3, .ref q), (0, .ref (a + 0)), (1, .int x1), (2, .ref o)]) hx0 hb dL_turn_12 rfl hl (by decide) rfl (fun ls hl => ?_)
      refine lv_iconst (v := (1 : Int32)) hx0 hb dL_turn_13 (by decide) ?_
      exact y_iret C hW (by rw [ou, e9]; exact hOw) hS (by decide) (by decide) dL_turn_14
    · rw [e9] at en
      cases en
      refine y_catch (n := 0) C hTb hN (by decide) 1 (x := (0, 9, 15, 13)) rfl [1] rfl (fun j hj => by
          rcases (show j = 0 by omega) with rfl
          · exact ⟨_, _, rfl, rfl, by decide, by decide, by decide, clL_19⟩) (by decide) clL_13 (List.mem_of_getElem? (i := 981) (by decide +kernel)) (by decide +kernel) hq hv hc ?_
      refine lv_astore_n (lv' := [(3, .ref q), (0, .ref (a + 0)), (1, .int x1), (2, .ref o)]) hx0 hb dL_turn_15 rfl hl (by decide) rfl (fun ls hl => ?_)
      refine lv_iconst (v := (2 : Int32)) hx0 hb dL_turn_16 (by decide) ?_
      exact y_iret C hW (by rw [ou, e9]; exact hOw) hS (by decide) (by decide) dL_turn_17
  · have hOw := hOw.kept (hf o hOw.lt (aw_ne hao))
    rcases hk with ⟨v9, e9, rfl⟩ | ⟨e9, rfl⟩ | ⟨e9, rfl⟩
    · refine lv_i2l hx0 hb dL_turn_7 rfl ?_
      refine y_last C hW hOw hao hS dL_turn_8 (fun H locs hW hOw hS => ?_)
      refine lv_goto (tgt := 18) hx0 hb dL_turn_9 (by decide) ?_
      refine lv_iconst (v := (0 : Int32)) hx0 hb dL_turn_18 (by decide) ?_
      exact y_iret C hW (by rw [ou, ev]; exact hOw) hS (by decide) (by decide) dL_turn_19
    · rw [e9] at ev; cases ev
    · rw [e9] at ev; cases ev
theorem cwL_goTo : CWW yL_goTo cL_goTo 4 (some .int) [(0, 9, 12, 28)] 3 := ⟨tb_i 1300 (by decide +kernel) (by decide +kernel), iniL, by decide +kernel, by decide +kernel⟩
theorem csL_goTo : Cond.static yL_goTo ∈ tb := tb_i 1299 (by decide +kernel) (by decide +kernel)
set_option maxRecDepth 100000 in
set_option maxHeartbeats 4000000 in
theorem mL_goTo {l : Launch} {E : Ev} {a o : Nat} (x1 : Int32) (σ : Mem) (r : Rx) (h : fX11_goTo 0 x1 σ = some r) (w : Int64) (k : Int32) (hk : (∃ v, r.1 = .inr v ∧ k = 0) ∨ (r.1 = .inl 2 ∧ k = 1)) : Met l yL_goTo (twc yL_goTo cL_goTo 4 (some .int) [(0, 9, 12, 28)]) { frames := 8, cells := 1, slots := 6, locals := 147 } (va_Pc [.ref (a + 0), .int x1, .ref o] (PrL l E a o σ w)) (QzL E a o k r w) 1 6 (Aw a o) := by
  refine cw_of (by decide) (Nat.le_of_ble_eq_true rfl) ?_
  intro p e s m below meth c C hTb hN hW hOw hao hS ls hl
  have hx0 := C.1
  have hb := C.2.1
  have hl : lv_has ls 4 [(0, .ref (a + 0)), (1, .int x1), (2, .ref o)] := hl
  refine lv_aload_n hx0 hb dL_goTo_0 rfl (lv_at hl 2 rfl) ?_
  refine lv_iconst (v := (0 : Int32)) hx0 hb dL_goTo_1 (by decide) ?_
  refine lv_aload_n hx0 hb dL_goTo_2 rfl (lv_at hl 0 rfl) ?_
  refine lv_iload_n hx0 hb dL_goTo_3 rfl (lv_at hl 1 rfl) ?_
  refine y_callV (L := LC E a) (k := 0) (As := [.int x1]) (rest := [.int (0 : Int32), .ref o]) C hW hS (fun q z => Or.inl z) (aw_od C.2.2.2.2.2.2.2.2 hW hao hS) (kdlt kd0 (by decide)) (ccX11 kd0) kcX11 (mX11_goTo 0 x1 kd0 σ r h) cwX11_goTo cvX11_goTo rfl mlL_63 ⟨by decide, by decide⟩ rfl hl.1 (Nat.le_of_ble_eq_true rfl) ⟨by decide, by decide⟩ dL_goTo_4 rfl (fun n en H locs q ce hW hS hz hf hq hv hc => ?_) (fun v ev H locs hW hS hz hf => ?_)
  · have hOw := hOw.kept (hf o hOw.lt (aw_ne hao))
    rcases hk with ⟨v9, e9, rfl⟩ | ⟨e9, rfl⟩
    · rw [e9] at en; cases en
    · rw [e9] at en
      cases en
      refine y_catch (n := 2) C hTb hN (by decide) 0 (x := (0, 9, 12, 28)) rfl [] rfl (fun j hj => by
          omega) (by decide) clL_28 (List.mem_of_getElem? (i := 1104) (by decide +kernel)) (by decide +kernel) hq hv hc ?_
      refine lv_astore_n (lv' := [(3, .ref q), (0, .ref (a + 0)), (1, .int x1), (2, .ref o)]) hx0 hb dL_goTo_12 rfl hl (by decide) rfl (fun ls hl => ?_)
      refine lv_iconst (v := (1 : Int32)) hx0 hb dL_goTo_13 (by decide) ?_
      exact y_iret C hW (by rw [ou, e9]; exact hOw) hS (by decide) (by decide) dL_goTo_14
  · have hOw := hOw.kept (hf o hOw.lt (aw_ne hao))
    rcases hk with ⟨v9, e9, rfl⟩ | ⟨e9, rfl⟩
    · refine lv_i2l hx0 hb dL_goTo_7 rfl ?_
      refine y_last C hW hOw hao hS dL_goTo_8 (fun H locs hW hOw hS => ?_)
      refine lv_goto (tgt := 15) hx0 hb dL_goTo_9 (by decide) ?_
      refine lv_iconst (v := (0 : Int32)) hx0 hb dL_goTo_15 (by decide) ?_
      exact y_iret C hW (by rw [ou, ev]; exact hOw) hS (by decide) (by decide) dL_goTo_16
    · rw [e9] at ev; cases ev
theorem cwL_goBack : CWW yL_goBack cL_goBack 3 (some .int) [(0, 8, 11, 13)] 2 := ⟨tb_i 1325 (by decide +kernel) (by decide +kernel), iniL, by decide +kernel, by decide +kernel⟩
theorem csL_goBack : Cond.static yL_goBack ∈ tb := tb_i 1324 (by decide +kernel) (by decide +kernel)
set_option maxRecDepth 100000 in
set_option maxHeartbeats 4000000 in
theorem mL_goBack {l : Launch} {E : Ev} {a o : Nat} (σ : Mem) (r : Rx) (h : fX11_goBack 0 σ = some r) (w : Int64) (k : Int32) (hk : (∃ v, r.1 = .inr v ∧ k = 0) ∨ (r.1 = .inl 0 ∧ k = 1)) : Met l yL_goBack (twc yL_goBack cL_goBack 3 (some .int) [(0, 8, 11, 13)]) { frames := 7, cells := 1, slots := 6, locals := 146 } (va_Pc [.ref (a + 0), .ref o] (PrL l E a o σ w)) (QzL E a o k r w) 1 6 (Aw a o) := by
  refine cw_of (by decide) (Nat.le_of_ble_eq_true rfl) ?_
  intro p e s m below meth c C hTb hN hW hOw hao hS ls hl
  have hx0 := C.1
  have hb := C.2.1
  have hl : lv_has ls 3 [(0, .ref (a + 0)), (1, .ref o)] := hl
  refine lv_aload_n hx0 hb dL_goBack_0 rfl (lv_at hl 1 rfl) ?_
  refine lv_iconst (v := (0 : Int32)) hx0 hb dL_goBack_1 (by decide) ?_
  refine lv_aload_n hx0 hb dL_goBack_2 rfl (lv_at hl 0 rfl) ?_
  refine y_callV (L := LC E a) (k := 0) (As := []) (rest := [.int (0 : Int32), .ref o]) C hW hS (fun q z => Or.inl z) (aw_od C.2.2.2.2.2.2.2.2 hW hao hS) (kdlt kd0 (by decide)) (ccX11 kd0) kcX11 (mX11_goBack 0 kd0 σ r h) cwX11_goBack cvX11_goBack rfl mlL_66 ⟨by decide, by decide⟩ rfl hl.1 (Nat.le_of_ble_eq_true rfl) ⟨by decide, by decide⟩ dL_goBack_3 rfl (fun n en H locs q ce hW hS hz hf hq hv hc => ?_) (fun v ev H locs hW hS hz hf => ?_)
  · have hOw := hOw.kept (hf o hOw.lt (aw_ne hao))
    rcases hk with ⟨v9, e9, rfl⟩ | ⟨e9, rfl⟩
    · rw [e9] at en; cases en
    · rw [e9] at en
      cases en
      refine y_catch (n := 0) C hTb hN (by decide) 0 (x := (0, 8, 11, 13)) rfl [] rfl (fun j hj => by
          omega) (by decide) clL_13 (List.mem_of_getElem? (i := 981) (by decide +kernel)) (by decide +kernel) hq hv hc ?_
      refine lv_astore_n (lv' := [(2, .ref q), (0, .ref (a + 0)), (1, .ref o)]) hx0 hb dL_goBack_11 rfl hl (by decide) rfl (fun ls hl => ?_)
      refine lv_iconst (v := (1 : Int32)) hx0 hb dL_goBack_12 (by decide) ?_
      exact y_iret C hW (by rw [ou, e9]; exact hOw) hS (by decide) (by decide) dL_goBack_13
  · have hOw := hOw.kept (hf o hOw.lt (aw_ne hao))
    rcases hk with ⟨v9, e9, rfl⟩ | ⟨e9, rfl⟩
    · refine lv_i2l hx0 hb dL_goBack_6 rfl ?_
      refine y_last C hW hOw hao hS dL_goBack_7 (fun H locs hW hOw hS => ?_)
      refine lv_goto (tgt := 14) hx0 hb dL_goBack_8 (by decide) ?_
      refine lv_iconst (v := (0 : Int32)) hx0 hb dL_goBack_14 (by decide) ?_
      exact y_iret C hW (by rw [ou, ev]; exact hOw) hS (by decide) (by decide) dL_goBack_15
    · rw [e9] at ev; cases ev
theorem cwL_volume : CWW yL_volume cL_volume 4 (some .int) [(0, 9, 12, 19)] 3 := ⟨tb_i 1337 (by decide +kernel) (by decide +kernel), iniL, by decide +kernel, by decide +kernel⟩
theorem csL_volume : Cond.static yL_volume ∈ tb := tb_i 1336 (by decide +kernel) (by decide +kernel)
set_option maxRecDepth 100000 in
set_option maxHeartbeats 4000000 in
theorem mL_volume {l : Launch} {E : Ev} {a o : Nat} (x1 : Int32) (σ : Mem) (r : Rx) (h : fX11_volume 0 x1 σ = some r) (w : Int64) (k : Int32) (hk : (∃ v, r.1 = .inr v ∧ k = 0) ∨ (r.1 = .inl 1 ∧ k = 1)) : Met l yL_volume (twc yL_volume cL_volume 4 (some .int) [(0, 9, 12, 19)]) { frames := 7, cells := 1, slots := 6, locals := 111 } (va_Pc [.ref (a + 0), .int x1, .ref o] (PrL l E a o σ w)) (QzL E a o k r w) 1 6 (Aw a o) := by
  refine cw_of (by decide) (Nat.le_of_ble_eq_true rfl) ?_
  intro p e s m below meth c C hTb hN hW hOw hao hS ls hl
  have hx0 := C.1
  have hb := C.2.1
  have hl : lv_has ls 4 [(0, .ref (a + 0)), (1, .int x1), (2, .ref o)] := hl
  refine lv_aload_n hx0 hb dL_volume_0 rfl (lv_at hl 2 rfl) ?_
  refine lv_iconst (v := (0 : Int32)) hx0 hb dL_volume_1 (by decide) ?_
  refine lv_aload_n hx0 hb dL_volume_2 rfl (lv_at hl 0 rfl) ?_
  refine lv_iload_n hx0 hb dL_volume_3 rfl (lv_at hl 1 rfl) ?_
  refine y_callV (L := LC E a) (k := 0) (As := [.int x1]) (rest := [.int (0 : Int32), .ref o]) C hW hS (fun q z => Or.inl z) (aw_od C.2.2.2.2.2.2.2.2 hW hao hS) (kdlt kd0 (by decide)) (ccX11 kd0) kcX11 (mX11_volume 0 x1 kd0 σ r h) cwX11_volume cvX11_volume rfl mlL_69 ⟨by decide, by decide⟩ rfl hl.1 (Nat.le_of_ble_eq_true rfl) ⟨by decide, by decide⟩ dL_volume_4 rfl (fun n en H locs q ce hW hS hz hf hq hv hc => ?_) (fun v ev H locs hW hS hz hf => ?_)
  · have hOw := hOw.kept (hf o hOw.lt (aw_ne hao))
    rcases hk with ⟨v9, e9, rfl⟩ | ⟨e9, rfl⟩
    · rw [e9] at en; cases en
    · rw [e9] at en
      cases en
      refine y_catch (n := 1) C hTb hN (by decide) 0 (x := (0, 9, 12, 19)) rfl [] rfl (fun j hj => by
          omega) (by decide) clL_19 (List.mem_of_getElem? (i := 1062) (by decide +kernel)) (by decide +kernel) hq hv hc ?_
      refine lv_astore_n (lv' := [(3, .ref q), (0, .ref (a + 0)), (1, .int x1), (2, .ref o)]) hx0 hb dL_volume_12 rfl hl (by decide) rfl (fun ls hl => ?_)
      refine lv_iconst (v := (1 : Int32)) hx0 hb dL_volume_13 (by decide) ?_
      exact y_iret C hW (by rw [ou, e9]; exact hOw) hS (by decide) (by decide) dL_volume_14
  · have hOw := hOw.kept (hf o hOw.lt (aw_ne hao))
    rcases hk with ⟨v9, e9, rfl⟩ | ⟨e9, rfl⟩
    · refine lv_i2l hx0 hb dL_volume_7 rfl ?_
      refine y_last C hW hOw hao hS dL_volume_8 (fun H locs hW hOw hS => ?_)
      refine lv_goto (tgt := 15) hx0 hb dL_volume_9 (by decide) ?_
      refine lv_iconst (v := (0 : Int32)) hx0 hb dL_volume_15 (by decide) ?_
      exact y_iret C hW (by rw [ou, ev]; exact hOw) hS (by decide) (by decide) dL_volume_16
    · rw [e9] at ev; cases ev
theorem cwL_leaf : CWW yL_leaf cL_leaf 5 (some .int) [(0, 10, 13, 28), (0, 10, 17, 19)] 4 := ⟨tb_i 1346 (by decide +kernel) (by decide +kernel), iniL, by decide +kernel, by decide +kernel⟩
theorem csL_leaf : Cond.static yL_leaf ∈ tb := tb_i 1345 (by decide +kernel) (by decide +kernel)
set_option maxRecDepth 100000 in
set_option maxHeartbeats 4000000 in
theorem mL_leaf {l : Launch} {E : Ev} {a o : Nat} (x1 : Int32) (x2 : Int32) (σ : Mem) (r : Rx) (h : fX11_leaf 0 x1 x2 σ = some r) (w : Int64) (k : Int32) (hk : (∃ v, r.1 = .inr v ∧ k = 0) ∨ (r.1 = .inl 2 ∧ k = 1) ∨ (r.1 = .inl 1 ∧ k = 2)) : Met l yL_leaf (twc yL_leaf cL_leaf 5 (some .int) [(0, 10, 13, 28), (0, 10, 17, 19)]) { frames := 8, cells := 2, slots := 12, locals := 133 } (va_Pc [.ref (a + 0), .int x1, .int x2, .ref o] (PrL l E a o σ w)) (QzL E a o k r w) 2 12 (Aw a o) := by
  refine cw_of (by decide) (Nat.le_of_ble_eq_true rfl) ?_
  intro p e s m below meth c C hTb hN hW hOw hao hS ls hl
  have hx0 := C.1
  have hb := C.2.1
  have hl : lv_has ls 5 [(0, .ref (a + 0)), (1, .int x1), (2, .int x2), (3, .ref o)] := hl
  refine lv_aload_n hx0 hb dL_leaf_0 rfl (lv_at hl 3 rfl) ?_
  refine lv_iconst (v := (0 : Int32)) hx0 hb dL_leaf_1 (by decide) ?_
  refine lv_aload_n hx0 hb dL_leaf_2 rfl (lv_at hl 0 rfl) ?_
  refine lv_iload_n hx0 hb dL_leaf_3 rfl (lv_at hl 1 rfl) ?_
  refine lv_iload_n hx0 hb dL_leaf_4 rfl (lv_at hl 2 rfl) ?_
  refine y_callV (L := LC E a) (k := 0) (As := [.int x1, .int x2]) (rest := [.int (0 : Int32), .ref o]) C hW hS (fun q z => Or.inl z) (aw_od C.2.2.2.2.2.2.2.2 hW hao hS) (kdlt kd0 (by decide)) (ccX11 kd0) kcX11 (mX11_leaf 0 x1 x2 kd0 σ r h) cwX11_leaf cvX11_leaf rfl mlL_72 ⟨by decide, by decide⟩ rfl hl.1 (Nat.le_of_ble_eq_true rfl) ⟨by decide, by decide⟩ dL_leaf_5 rfl (fun n en H locs q ce hW hS hz hf hq hv hc => ?_) (fun v ev H locs hW hS hz hf => ?_)
  · have hOw := hOw.kept (hf o hOw.lt (aw_ne hao))
    rcases hk with ⟨v9, e9, rfl⟩ | ⟨e9, rfl⟩ | ⟨e9, rfl⟩
    · rw [e9] at en; cases en
    · rw [e9] at en
      cases en
      refine y_catch (n := 2) C hTb hN (by decide) 0 (x := (0, 10, 13, 28)) rfl [] rfl (fun j hj => by
          omega) (by decide) clL_28 (List.mem_of_getElem? (i := 1104) (by decide +kernel)) (by decide +kernel) hq hv hc ?_
      refine lv_astore (lv' := [(4, .ref q), (0, .ref (a + 0)), (1, .int x1), (2, .int x2), (3, .ref o)]) hx0 hb dL_leaf_13 hl (by decide) rfl (fun ls hl => ?_)
      refine lv_iconst (v := (1 : Int32)) hx0 hb dL_leaf_15 (by decide) ?_
      exact y_iret C hW (by rw [ou, e9]; exact hOw) hS (by decide) (by decide) dL_leaf_16
    · rw [e9] at en
      cases en
      refine y_catch (n := 1) C hTb hN (by decide) 1 (x := (0, 10, 17, 19)) rfl [2] rfl (fun j hj => by
          rcases (show j = 0 by omega) with rfl
          · exact ⟨_, _, rfl, rfl, by decide, by decide, by decide, clL_28⟩) (by decide) clL_19 (List.mem_of_getElem? (i := 1062) (by decide +kernel)) (by decide +kernel) hq hv hc ?_
      refine lv_astore (lv' := [(4, .ref q), (0, .ref (a + 0)), (1, .int x1), (2, .int x2), (3, .ref o)]) hx0 hb dL_leaf_17 hl (by decide) rfl (fun ls hl => ?_)
      refine lv_iconst (v := (2 : Int32)) hx0 hb dL_leaf_19 (by decide) ?_
      exact y_iret C hW (by rw [ou, e9]; exact hOw) hS (by decide) (by decide) dL_leaf_20
  · have hOw := hOw.kept (hf o hOw.lt (aw_ne hao))
    rcases hk with ⟨v9, e9, rfl⟩ | ⟨e9, rfl⟩ | ⟨e9, rfl⟩
    · refine lv_i2l hx0 hb dL_leaf_8 rfl ?_
      refine y_last C hW hOw hao hS dL_leaf_9 (fun H locs hW hOw hS => ?_)
      refine lv_goto (tgt := 21) hx0 hb dL_leaf_10 (by decide) ?_
      refine lv_iconst (v := (0 : Int32)) hx0 hb dL_leaf_21 (by decide) ?_
      exact y_iret C hW (by rw [ou, ev]; exact hOw) hS (by decide) (by decide) dL_leaf_22
    · rw [e9] at ev; cases ev
    · rw [e9] at ev; cases ev
theorem cwL_slip : CWW yL_slip cL_slip 5 (some .int) [(0, 10, 13, 28), (0, 10, 17, 19)] 4 := ⟨tb_i 1377 (by decide +kernel) (by decide +kernel), iniL, by decide +kernel, by decide +kernel⟩
theorem csL_slip : Cond.static yL_slip ∈ tb := tb_i 1376 (by decide +kernel) (by decide +kernel)
set_option maxRecDepth 100000 in
set_option maxHeartbeats 4000000 in
theorem mL_slip {l : Launch} {E : Ev} {a o : Nat} (x1 : Int32) (x2 : Int32) (σ : Mem) (r : Rx) (h : fX11_slip 0 x1 x2 σ = some r) (w : Int64) (k : Int32) (hk : (∃ v, r.1 = .inr v ∧ k = 0) ∨ (r.1 = .inl 2 ∧ k = 1) ∨ (r.1 = .inl 1 ∧ k = 2)) : Met l yL_slip (twc yL_slip cL_slip 5 (some .int) [(0, 10, 13, 28), (0, 10, 17, 19)]) { frames := 8, cells := 2, slots := 12, locals := 133 } (va_Pc [.ref (a + 0), .int x1, .int x2, .ref o] (PrL l E a o σ w)) (QzL E a o k r w) 2 12 (Aw a o) := by
  refine cw_of (by decide) (Nat.le_of_ble_eq_true rfl) ?_
  intro p e s m below meth c C hTb hN hW hOw hao hS ls hl
  have hx0 := C.1
  have hb := C.2.1
  have hl : lv_has ls 5 [(0, .ref (a + 0)), (1, .int x1), (2, .int x2), (3, .ref o)] := hl
  refine lv_aload_n hx0 hb dL_slip_0 rfl (lv_at hl 3 rfl) ?_
  refine lv_iconst (v := (0 : Int32)) hx0 hb dL_slip_1 (by decide) ?_
  refine lv_aload_n hx0 hb dL_slip_2 rfl (lv_at hl 0 rfl) ?_
  refine lv_iload_n hx0 hb dL_slip_3 rfl (lv_at hl 1 rfl) ?_
  refine lv_iload_n hx0 hb dL_slip_4 rfl (lv_at hl 2 rfl) ?_
  refine y_callV (L := LC E a) (k := 0) (As := [.int x1, .int x2]) (rest := [.int (0 : Int32), .ref o]) C hW hS (fun q z => Or.inl z) (aw_od C.2.2.2.2.2.2.2.2 hW hao hS) (kdlt kd0 (by decide)) (ccX11 kd0) kcX11 (mX11_slip 0 x1 x2 kd0 σ r h) cwX11_slip cvX11_slip rfl mlL_75 ⟨by decide, by decide⟩ rfl hl.1 (Nat.le_of_ble_eq_true rfl) ⟨by decide, by decide⟩ dL_slip_5 rfl (fun n en H locs q ce hW hS hz hf hq hv hc => ?_) (fun v ev H locs hW hS hz hf => ?_)
  · have hOw := hOw.kept (hf o hOw.lt (aw_ne hao))
    rcases hk with ⟨v9, e9, rfl⟩ | ⟨e9, rfl⟩ | ⟨e9, rfl⟩
    · rw [e9] at en; cases en
    · rw [e9] at en
      cases en
      refine y_catch (n := 2) C hTb hN (by decide) 0 (x := (0, 10, 13, 28)) rfl [] rfl (fun j hj => by
          omega) (by decide) clL_28 (List.mem_of_getElem? (i := 1104) (by decide +kernel)) (by decide +kernel) hq hv hc ?_
      refine lv_astore (lv' := [(4, .ref q), (0, .ref (a + 0)), (1, .int x1), (2, .int x2), (3, .ref o)]) hx0 hb dL_slip_13 hl (by decide) rfl (fun ls hl => ?_)
      refine lv_iconst (v := (1 : Int32)) hx0 hb dL_slip_15 (by decide) ?_
      exact y_iret C hW (by rw [ou, e9]; exact hOw) hS (by decide) (by decide) dL_slip_16
    · rw [e9] at en
      cases en
      refine y_catch (n := 1) C hTb hN (by decide) 1 (x := (0, 10, 17, 19)) rfl [2] rfl (fun j hj => by
          rcases (show j = 0 by omega) with rfl
          · exact ⟨_, _, rfl, rfl, by decide, by decide, by decide, clL_28⟩) (by decide) clL_19 (List.mem_of_getElem? (i := 1062) (by decide +kernel)) (by decide +kernel) hq hv hc ?_
      refine lv_astore (lv' := [(4, .ref q), (0, .ref (a + 0)), (1, .int x1), (2, .int x2), (3, .ref o)]) hx0 hb dL_slip_17 hl (by decide) rfl (fun ls hl => ?_)
      refine lv_iconst (v := (2 : Int32)) hx0 hb dL_slip_19 (by decide) ?_
      exact y_iret C hW (by rw [ou, e9]; exact hOw) hS (by decide) (by decide) dL_slip_20
  · have hOw := hOw.kept (hf o hOw.lt (aw_ne hao))
    rcases hk with ⟨v9, e9, rfl⟩ | ⟨e9, rfl⟩ | ⟨e9, rfl⟩
    · refine lv_i2l hx0 hb dL_slip_8 rfl ?_
      refine y_last C hW hOw hao hS dL_slip_9 (fun H locs hW hOw hS => ?_)
      refine lv_goto (tgt := 21) hx0 hb dL_slip_10 (by decide) ?_
      refine lv_iconst (v := (0 : Int32)) hx0 hb dL_slip_21 (by decide) ?_
      exact y_iret C hW (by rw [ou, ev]; exact hOw) hS (by decide) (by decide) dL_slip_22
    · rw [e9] at ev; cases ev
    · rw [e9] at ev; cases ev
theorem cwL_formattedByte : CWW yL_formattedByte cL_formattedByte 4 (some .int) [(0, 9, 12, 28)] 3 := ⟨tb_i 1389 (by decide +kernel) (by decide +kernel), iniL, by decide +kernel, by decide +kernel⟩
theorem csL_formattedByte : Cond.static yL_formattedByte ∈ tb := tb_i 1388 (by decide +kernel) (by decide +kernel)
set_option maxRecDepth 100000 in
set_option maxHeartbeats 4000000 in
theorem mL_formattedByte {l : Launch} {E : Ev} {a o : Nat} (x1 : Int32) (σ : Mem) (r : Rx) (h : fX11_formattedByte 0 x1 σ = some r) (w : Int64) (k : Int32) (hk : (∃ v, r.1 = .inr v ∧ k = 0) ∨ (r.1 = .inl 2 ∧ k = 1)) : Met l yL_formattedByte (twc yL_formattedByte cL_formattedByte 4 (some .int) [(0, 9, 12, 28)]) { frames := 7, cells := 1, slots := 6, locals := 111 } (va_Pc [.ref (a + 0), .int x1, .ref o] (PrL l E a o σ w)) (QzL E a o k r w) 1 6 (Aw a o) := by
  refine cw_of (by decide) (Nat.le_of_ble_eq_true rfl) ?_
  intro p e s m below meth c C hTb hN hW hOw hao hS ls hl
  have hx0 := C.1
  have hb := C.2.1
  have hl : lv_has ls 4 [(0, .ref (a + 0)), (1, .int x1), (2, .ref o)] := hl
  refine lv_aload_n hx0 hb dL_formattedByte_0 rfl (lv_at hl 2 rfl) ?_
  refine lv_iconst (v := (0 : Int32)) hx0 hb dL_formattedByte_1 (by decide) ?_
  refine lv_aload_n hx0 hb dL_formattedByte_2 rfl (lv_at hl 0 rfl) ?_
  refine lv_iload_n hx0 hb dL_formattedByte_3 rfl (lv_at hl 1 rfl) ?_
  refine y_callV (L := LC E a) (k := 0) (As := [.int x1]) (rest := [.int (0 : Int32), .ref o]) C hW hS (fun q z => Or.inl z) (aw_od C.2.2.2.2.2.2.2.2 hW hao hS) (kdlt kd0 (by decide)) (ccX11 kd0) kcX11 (mX11_formattedByte 0 x1 kd0 σ r h) cwX11_formattedByte cvX11_formattedByte rfl mlL_78 ⟨by decide, by decide⟩ rfl hl.1 (Nat.le_of_ble_eq_true rfl) ⟨by decide, by decide⟩ dL_formattedByte_4 rfl (fun n en H locs q ce hW hS hz hf hq hv hc => ?_) (fun v ev H locs hW hS hz hf => ?_)
  · have hOw := hOw.kept (hf o hOw.lt (aw_ne hao))
    rcases hk with ⟨v9, e9, rfl⟩ | ⟨e9, rfl⟩
    · rw [e9] at en; cases en
    · rw [e9] at en
      cases en
      refine y_catch (n := 2) C hTb hN (by decide) 0 (x := (0, 9, 12, 28)) rfl [] rfl (fun j hj => by
          omega) (by decide) clL_28 (List.mem_of_getElem? (i := 1104) (by decide +kernel)) (by decide +kernel) hq hv hc ?_
      refine lv_astore_n (lv' := [(3, .ref q), (0, .ref (a + 0)), (1, .int x1), (2, .ref o)]) hx0 hb dL_formattedByte_12 rfl hl (by decide) rfl (fun ls hl => ?_)
      refine lv_iconst (v := (1 : Int32)) hx0 hb dL_formattedByte_13 (by decide) ?_
      exact y_iret C hW (by rw [ou, e9]; exact hOw) hS (by decide) (by decide) dL_formattedByte_14
  · have hOw := hOw.kept (hf o hOw.lt (aw_ne hao))
    rcases hk with ⟨v9, e9, rfl⟩ | ⟨e9, rfl⟩
    · refine lv_i2l hx0 hb dL_formattedByte_7 rfl ?_
      refine y_last C hW hOw hao hS dL_formattedByte_8 (fun H locs hW hOw hS => ?_)
      refine lv_goto (tgt := 15) hx0 hb dL_formattedByte_9 (by decide) ?_
      refine lv_iconst (v := (0 : Int32)) hx0 hb dL_formattedByte_15 (by decide) ?_
      exact y_iret C hW (by rw [ou, ev]; exact hOw) hS (by decide) (by decide) dL_formattedByte_16
    · rw [e9] at ev; cases ev
theorem cwL_sideAt : CWW yL_sideAt cL_sideAt 5 (some .int) [(0, 10, 13, 28), (0, 10, 17, 19)] 4 := ⟨tb_i 1398 (by decide +kernel) (by decide +kernel), iniL, by decide +kernel, by decide +kernel⟩
theorem csL_sideAt : Cond.static yL_sideAt ∈ tb := tb_i 1397 (by decide +kernel) (by decide +kernel)
set_option maxRecDepth 100000 in
set_option maxHeartbeats 4000000 in
theorem mL_sideAt {l : Launch} {E : Ev} {a o : Nat} (x1 : Int32) (x2 : Int32) (σ : Mem) (r : Rx) (h : fX11_sideAt 0 x1 x2 σ = some r) (w : Int64) (k : Int32) (hk : (∃ v, r.1 = .inr v ∧ k = 0) ∨ (r.1 = .inl 2 ∧ k = 1) ∨ (r.1 = .inl 1 ∧ k = 2)) : Met l yL_sideAt (twc yL_sideAt cL_sideAt 5 (some .int) [(0, 10, 13, 28), (0, 10, 17, 19)]) { frames := 8, cells := 2, slots := 12, locals := 136 } (va_Pc [.ref (a + 0), .int x1, .int x2, .ref o] (PrL l E a o σ w)) (QzL E a o k r w) 2 12 (Aw a o) := by
  refine cw_of (by decide) (Nat.le_of_ble_eq_true rfl) ?_
  intro p e s m below meth c C hTb hN hW hOw hao hS ls hl
  have hx0 := C.1
  have hb := C.2.1
  have hl : lv_has ls 5 [(0, .ref (a + 0)), (1, .int x1), (2, .int x2), (3, .ref o)] := hl
  refine lv_aload_n hx0 hb dL_sideAt_0 rfl (lv_at hl 3 rfl) ?_
  refine lv_iconst (v := (0 : Int32)) hx0 hb dL_sideAt_1 (by decide) ?_
  refine lv_aload_n hx0 hb dL_sideAt_2 rfl (lv_at hl 0 rfl) ?_
  refine lv_iload_n hx0 hb dL_sideAt_3 rfl (lv_at hl 1 rfl) ?_
  refine lv_iload_n hx0 hb dL_sideAt_4 rfl (lv_at hl 2 rfl) ?_
  refine y_callV (L := LC E a) (k := 0) (As := [.int x1, .int x2]) (rest := [.int (0 : Int32), .ref o]) C hW hS (fun q z => Or.inl z) (aw_od C.2.2.2.2.2.2.2.2 hW hao hS) (kdlt kd0 (by decide)) (ccX11 kd0) kcX11 (mX11_sideAt 0 x1 x2 kd0 σ r h) cwX11_sideAt cvX11_sideAt rfl mlL_81 ⟨by decide, by decide⟩ rfl hl.1 (Nat.le_of_ble_eq_true rfl) ⟨by decide, by decide⟩ dL_sideAt_5 rfl (fun n en H locs q ce hW hS hz hf hq hv hc => ?_) (fun v ev H locs hW hS hz hf => ?_)
  · have hOw := hOw.kept (hf o hOw.lt (aw_ne hao))
    rcases hk with ⟨v9, e9, rfl⟩ | ⟨e9, rfl⟩ | ⟨e9, rfl⟩
    · rw [e9] at en; cases en
    · rw [e9] at en
      cases en
      refine y_catch (n := 2) C hTb hN (by decide) 0 (x := (0, 10, 13, 28)) rfl [] rfl (fun j hj => by
          omega) (by decide) clL_28 (List.mem_of_getElem? (i := 1104) (by decide +kernel)) (by decide +kernel) hq hv hc ?_
      refine lv_astore (lv' := [(4, .ref q), (0, .ref (a + 0)), (1, .int x1), (2, .int x2), (3, .ref o)]) hx0 hb dL_sideAt_13 hl (by decide) rfl (fun ls hl => ?_)
      refine lv_iconst (v := (1 : Int32)) hx0 hb dL_sideAt_15 (by decide) ?_
      exact y_iret C hW (by rw [ou, e9]; exact hOw) hS (by decide) (by decide) dL_sideAt_16
    · rw [e9] at en
      cases en
      refine y_catch (n := 1) C hTb hN (by decide) 1 (x := (0, 10, 17, 19)) rfl [2] rfl (fun j hj => by
          rcases (show j = 0 by omega) with rfl
          · exact ⟨_, _, rfl, rfl, by decide, by decide, by decide, clL_28⟩) (by decide) clL_19 (List.mem_of_getElem? (i := 1062) (by decide +kernel)) (by decide +kernel) hq hv hc ?_
      refine lv_astore (lv' := [(4, .ref q), (0, .ref (a + 0)), (1, .int x1), (2, .int x2), (3, .ref o)]) hx0 hb dL_sideAt_17 hl (by decide) rfl (fun ls hl => ?_)
      refine lv_iconst (v := (2 : Int32)) hx0 hb dL_sideAt_19 (by decide) ?_
      exact y_iret C hW (by rw [ou, e9]; exact hOw) hS (by decide) (by decide) dL_sideAt_20
  · have hOw := hOw.kept (hf o hOw.lt (aw_ne hao))
    rcases hk with ⟨v9, e9, rfl⟩ | ⟨e9, rfl⟩ | ⟨e9, rfl⟩
    · refine lv_i2l hx0 hb dL_sideAt_8 rfl ?_
      refine y_last C hW hOw hao hS dL_sideAt_9 (fun H locs hW hOw hS => ?_)
      refine lv_goto (tgt := 21) hx0 hb dL_sideAt_10 (by decide) ?_
      refine lv_iconst (v := (0 : Int32)) hx0 hb dL_sideAt_21 (by decide) ?_
      exact y_iret C hW (by rw [ou, ev]; exact hOw) hS (by decide) (by decide) dL_sideAt_22
    · rw [e9] at ev; cases ev
    · rw [e9] at ev; cases ev
theorem cwL_placeOf : CWW yL_placeOf cL_placeOf 5 (some .int) [(0, 10, 13, 28), (0, 10, 17, 19)] 4 := ⟨tb_i 1414 (by decide +kernel) (by decide +kernel), iniL, by decide +kernel, by decide +kernel⟩
theorem csL_placeOf : Cond.static yL_placeOf ∈ tb := tb_i 1413 (by decide +kernel) (by decide +kernel)
set_option maxRecDepth 100000 in
set_option maxHeartbeats 4000000 in
theorem mL_placeOf {l : Launch} {E : Ev} {a o : Nat} (x1 : Int32) (x2 : Int32) (σ : Mem) (r : Rx) (h : fX11_placeOf 0 x1 x2 σ = some r) (w : Int64) (k : Int32) (hk : (∃ v, r.1 = .inr v ∧ k = 0) ∨ (r.1 = .inl 2 ∧ k = 1) ∨ (r.1 = .inl 1 ∧ k = 2)) : Met l yL_placeOf (twc yL_placeOf cL_placeOf 5 (some .int) [(0, 10, 13, 28), (0, 10, 17, 19)]) { frames := 8, cells := 2, slots := 12, locals := 133 } (va_Pc [.ref (a + 0), .int x1, .int x2, .ref o] (PrL l E a o σ w)) (QzL E a o k r w) 2 12 (Aw a o) := by
  refine cw_of (by decide) (Nat.le_of_ble_eq_true rfl) ?_
  intro p e s m below meth c C hTb hN hW hOw hao hS ls hl
  have hx0 := C.1
  have hb := C.2.1
  have hl : lv_has ls 5 [(0, .ref (a + 0)), (1, .int x1), (2, .int x2), (3, .ref o)] := hl
  refine lv_aload_n hx0 hb dL_placeOf_0 rfl (lv_at hl 3 rfl) ?_
  refine lv_iconst (v := (0 : Int32)) hx0 hb dL_placeOf_1 (by decide) ?_
  refine lv_aload_n hx0 hb dL_placeOf_2 rfl (lv_at hl 0 rfl) ?_
  refine lv_iload_n hx0 hb dL_placeOf_3 rfl (lv_at hl 1 rfl) ?_
  refine lv_iload_n hx0 hb dL_placeOf_4 rfl (lv_at hl 2 rfl) ?_
  refine y_callV (L := LC E a) (k := 0) (As := [.int x1, .int x2]) (rest := [.int (0 : Int32), .ref o]) C hW hS (fun q z => Or.inl z) (aw_od C.2.2.2.2.2.2.2.2 hW hao hS) (kdlt kd0 (by decide)) (ccX11 kd0) kcX11 (mX11_placeOf 0 x1 x2 kd0 σ r h) cwX11_placeOf cvX11_placeOf rfl mlL_84 ⟨by decide, by decide⟩ rfl hl.1 (Nat.le_of_ble_eq_true rfl) ⟨by decide, by decide⟩ dL_placeOf_5 rfl (fun n en H locs q ce hW hS hz hf hq hv hc => ?_) (fun v ev H locs hW hS hz hf => ?_)
  · have hOw := hOw.kept (hf o hOw.lt (aw_ne hao))
    rcases hk with ⟨v9, e9, rfl⟩ | ⟨e9, rfl⟩ | ⟨e9, rfl⟩
    · rw [e9] at en; cases en
    · rw [e9] at en
      cases en
      refine y_catch (n := 2) C hTb hN (by decide) 0 (x := (0, 10, 13, 28)) rfl [] rfl (fun j hj => by
          omega) (by decide) clL_28 (List.mem_of_getElem? (i := 1104) (by decide +kernel)) (by decide +kernel) hq hv hc ?_
      refine lv_astore (lv' := [(4, .ref q), (0, .ref (a + 0)), (1, .int x1), (2, .int x2), (3, .ref o)]) hx0 hb dL_placeOf_13 hl (by decide) rfl (fun ls hl => ?_)
      refine lv_iconst (v := (1 : Int32)) hx0 hb dL_placeOf_15 (by decide) ?_
      exact y_iret C hW (by rw [ou, e9]; exact hOw) hS (by decide) (by decide) dL_placeOf_16
    · rw [e9] at en
      cases en
      refine y_catch (n := 1) C hTb hN (by decide) 1 (x := (0, 10, 17, 19)) rfl [2] rfl (fun j hj => by
          rcases (show j = 0 by omega) with rfl
          · exact ⟨_, _, rfl, rfl, by decide, by decide, by decide, clL_28⟩) (by decide) clL_19 (List.mem_of_getElem? (i := 1062) (by decide +kernel)) (by decide +kernel) hq hv hc ?_
      refine lv_astore (lv' := [(4, .ref q), (0, .ref (a + 0)), (1, .int x1), (2, .int x2), (3, .ref o)]) hx0 hb dL_placeOf_17 hl (by decide) rfl (fun ls hl => ?_)
      refine lv_iconst (v := (2 : Int32)) hx0 hb dL_placeOf_19 (by decide) ?_
      exact y_iret C hW (by rw [ou, e9]; exact hOw) hS (by decide) (by decide) dL_placeOf_20
  · have hOw := hOw.kept (hf o hOw.lt (aw_ne hao))
    rcases hk with ⟨v9, e9, rfl⟩ | ⟨e9, rfl⟩ | ⟨e9, rfl⟩
    · refine lv_i2l hx0 hb dL_placeOf_8 rfl ?_
      refine y_last C hW hOw hao hS dL_placeOf_9 (fun H locs hW hOw hS => ?_)
      refine lv_goto (tgt := 21) hx0 hb dL_placeOf_10 (by decide) ?_
      refine lv_iconst (v := (0 : Int32)) hx0 hb dL_placeOf_21 (by decide) ?_
      exact y_iret C hW (by rw [ou, ev]; exact hOw) hS (by decide) (by decide) dL_placeOf_22
    · rw [e9] at ev; cases ev
    · rw [e9] at ev; cases ev
theorem cwL_formatLabel : CWW yL_formatLabel cL_formatLabel 4 (some .int) [(0, 9, 12, 28)] 3 := ⟨tb_i 1422 (by decide +kernel) (by decide +kernel), iniL, by decide +kernel, by decide +kernel⟩
theorem csL_formatLabel : Cond.static yL_formatLabel ∈ tb := tb_i 1421 (by decide +kernel) (by decide +kernel)
set_option maxRecDepth 100000 in
set_option maxHeartbeats 4000000 in
theorem mL_formatLabel {l : Launch} {E : Ev} {a o : Nat} (x1 : Int32) (σ : Mem) (r : Rx) (h : fX11_formatLabel 0 x1 σ = some r) (w : Int64) (k : Int32) (hk : (∃ v, r.1 = .inr v ∧ k = 0) ∨ (r.1 = .inl 2 ∧ k = 1)) : Met l yL_formatLabel (twc yL_formatLabel cL_formatLabel 4 (some .int) [(0, 9, 12, 28)]) { frames := 8, cells := 1, slots := 6, locals := 140 } (va_Pc [.ref (a + 0), .int x1, .ref o] (PrL l E a o σ w)) (QzL E a o k r w) 1 6 (Aw a o) := by
  refine cw_of (by decide) (Nat.le_of_ble_eq_true rfl) ?_
  intro p e s m below meth c C hTb hN hW hOw hao hS ls hl
  have hx0 := C.1
  have hb := C.2.1
  have hl : lv_has ls 4 [(0, .ref (a + 0)), (1, .int x1), (2, .ref o)] := hl
  refine lv_aload_n hx0 hb dL_formatLabel_0 rfl (lv_at hl 2 rfl) ?_
  refine lv_iconst (v := (0 : Int32)) hx0 hb dL_formatLabel_1 (by decide) ?_
  refine lv_aload_n hx0 hb dL_formatLabel_2 rfl (lv_at hl 0 rfl) ?_
  refine lv_iload_n hx0 hb dL_formatLabel_3 rfl (lv_at hl 1 rfl) ?_
  refine y_callV (L := LC E a) (k := 0) (As := [.int x1]) (rest := [.int (0 : Int32), .ref o]) C hW hS (fun q z => Or.inl z) (aw_od C.2.2.2.2.2.2.2.2 hW hao hS) (kdlt kd0 (by decide)) (ccX11 kd0) kcX11 (mX11_formatLabel 0 x1 kd0 σ r h) cwX11_formatLabel cvX11_formatLabel rfl mlL_87 ⟨by decide, by decide⟩ rfl hl.1 (Nat.le_of_ble_eq_true rfl) ⟨by decide, by decide⟩ dL_formatLabel_4 rfl (fun n en H locs q ce hW hS hz hf hq hv hc => ?_) (fun v ev H locs hW hS hz hf => ?_)
  · have hOw := hOw.kept (hf o hOw.lt (aw_ne hao))
    rcases hk with ⟨v9, e9, rfl⟩ | ⟨e9, rfl⟩
    · rw [e9] at en; cases en
    · rw [e9] at en
      cases en
      refine y_catch (n := 2) C hTb hN (by decide) 0 (x := (0, 9, 12, 28)) rfl [] rfl (fun j hj => by
          omega) (by decide) clL_28 (List.mem_of_getElem? (i := 1104) (by decide +kernel)) (by decide +kernel) hq hv hc ?_
      refine lv_astore_n (lv' := [(3, .ref q), (0, .ref (a + 0)), (1, .int x1), (2, .ref o)]) hx0 hb dL_formatLabel_12 rfl hl (by decide) rfl (fun ls hl => ?_)
      refine lv_iconst (v := (1 : Int32)) hx0 hb dL_formatLabel_13 (by decide) ?_
      exact y_iret C hW (by rw [ou, e9]; exact hOw) hS (by decide) (by decide) dL_formatLabel_14
  · have hOw := hOw.kept (hf o hOw.lt (aw_ne hao))
    rcases hk with ⟨v9, e9, rfl⟩ | ⟨e9, rfl⟩
    · refine lv_i2l hx0 hb dL_formatLabel_7 rfl ?_
      refine y_last C hW hOw hao hS dL_formatLabel_8 (fun H locs hW hOw hS => ?_)
      refine lv_goto (tgt := 15) hx0 hb dL_formatLabel_9 (by decide) ?_
      refine lv_iconst (v := (0 : Int32)) hx0 hb dL_formatLabel_15 (by decide) ?_
      exact y_iret C hW (by rw [ou, ev]; exact hOw) hS (by decide) (by decide) dL_formatLabel_16
    · rw [e9] at ev; cases ev
theorem cwL_formatLeafLabel : CWW yL_formatLeafLabel cL_formatLeafLabel 5 (some .int) [(0, 10, 13, 28), (0, 10, 17, 19)] 4 := ⟨tb_i 1456 (by decide +kernel) (by decide +kernel), iniL, by decide +kernel, by decide +kernel⟩
theorem csL_formatLeafLabel : Cond.static yL_formatLeafLabel ∈ tb := tb_i 1455 (by decide +kernel) (by decide +kernel)
set_option maxRecDepth 100000 in
set_option maxHeartbeats 4000000 in
theorem mL_formatLeafLabel {l : Launch} {E : Ev} {a o : Nat} (x1 : Int32) (x2 : Int32) (σ : Mem) (r : Rx) (h : fX11_formatLeafLabel 0 x1 x2 σ = some r) (w : Int64) (k : Int32) (hk : (∃ v, r.1 = .inr v ∧ k = 0) ∨ (r.1 = .inl 2 ∧ k = 1) ∨ (r.1 = .inl 1 ∧ k = 2)) : Met l yL_formatLeafLabel (twc yL_formatLeafLabel cL_formatLeafLabel 5 (some .int) [(0, 10, 13, 28), (0, 10, 17, 19)]) { frames := 8, cells := 2, slots := 12, locals := 133 } (va_Pc [.ref (a + 0), .int x1, .int x2, .ref o] (PrL l E a o σ w)) (QzL E a o k r w) 2 12 (Aw a o) := by
  refine cw_of (by decide) (Nat.le_of_ble_eq_true rfl) ?_
  intro p e s m below meth c C hTb hN hW hOw hao hS ls hl
  have hx0 := C.1
  have hb := C.2.1
  have hl : lv_has ls 5 [(0, .ref (a + 0)), (1, .int x1), (2, .int x2), (3, .ref o)] := hl
  refine lv_aload_n hx0 hb dL_formatLeafLabel_0 rfl (lv_at hl 3 rfl) ?_
  refine lv_iconst (v := (0 : Int32)) hx0 hb dL_formatLeafLabel_1 (by decide) ?_
  refine lv_aload_n hx0 hb dL_formatLeafLabel_2 rfl (lv_at hl 0 rfl) ?_
  refine lv_iload_n hx0 hb dL_formatLeafLabel_3 rfl (lv_at hl 1 rfl) ?_
  refine lv_iload_n hx0 hb dL_formatLeafLabel_4 rfl (lv_at hl 2 rfl) ?_
  refine y_callV (L := LC E a) (k := 0) (As := [.int x1, .int x2]) (rest := [.int (0 : Int32), .ref o]) C hW hS (fun q z => Or.inl z) (aw_od C.2.2.2.2.2.2.2.2 hW hao hS) (kdlt kd0 (by decide)) (ccX11 kd0) kcX11 (mX11_formatLeafLabel 0 x1 x2 kd0 σ r h) cwX11_formatLeafLabel cvX11_formatLeafLabel rfl mlL_90 ⟨by decide, by decide⟩ rfl hl.1 (Nat.le_of_ble_eq_true rfl) ⟨by decide, by decide⟩ dL_formatLeafLabel_5 rfl (fun n en H locs q ce hW hS hz hf hq hv hc => ?_) (fun v ev H locs hW hS hz hf => ?_)
  · have hOw := hOw.kept (hf o hOw.lt (aw_ne hao))
    rcases hk with ⟨v9, e9, rfl⟩ | ⟨e9, rfl⟩ | ⟨e9, rfl⟩
    · rw [e9] at en; cases en
    · rw [e9] at en
      cases en
      refine y_catch (n := 2) C hTb hN (by decide) 0 (x := (0, 10, 13, 28)) rfl [] rfl (fun j hj => by
          omega) (by decide) clL_28 (List.mem_of_getElem? (i := 1104) (by decide +kernel)) (by decide +kernel) hq hv hc ?_
      refine lv_astore (lv' := [(4, .ref q), (0, .ref (a + 0)), (1, .int x1), (2, .int x2), (3, .ref o)]) hx0 hb dL_formatLeafLabel_13 hl (by decide) rfl (fun ls hl => ?_)
      refine lv_iconst (v := (1 : Int32)) hx0 hb dL_formatLeafLabel_15 (by decide) ?_
      exact y_iret C hW (by rw [ou, e9]; exact hOw) hS (by decide) (by decide) dL_formatLeafLabel_16
    · rw [e9] at en
      cases en
      refine y_catch (n := 1) C hTb hN (by decide) 1 (x := (0, 10, 17, 19)) rfl [2] rfl (fun j hj => by
          rcases (show j = 0 by omega) with rfl
          · exact ⟨_, _, rfl, rfl, by decide, by decide, by decide, clL_28⟩) (by decide) clL_19 (List.mem_of_getElem? (i := 1062) (by decide +kernel)) (by decide +kernel) hq hv hc ?_
      refine lv_astore (lv' := [(4, .ref q), (0, .ref (a + 0)), (1, .int x1), (2, .int x2), (3, .ref o)]) hx0 hb dL_formatLeafLabel_17 hl (by decide) rfl (fun ls hl => ?_)
      refine lv_iconst (v := (2 : Int32)) hx0 hb dL_formatLeafLabel_19 (by decide) ?_
      exact y_iret C hW (by rw [ou, e9]; exact hOw) hS (by decide) (by decide) dL_formatLeafLabel_20
  · have hOw := hOw.kept (hf o hOw.lt (aw_ne hao))
    rcases hk with ⟨v9, e9, rfl⟩ | ⟨e9, rfl⟩ | ⟨e9, rfl⟩
    · refine lv_i2l hx0 hb dL_formatLeafLabel_8 rfl ?_
      refine y_last C hW hOw hao hS dL_formatLeafLabel_9 (fun H locs hW hOw hS => ?_)
      refine lv_goto (tgt := 21) hx0 hb dL_formatLeafLabel_10 (by decide) ?_
      refine lv_iconst (v := (0 : Int32)) hx0 hb dL_formatLeafLabel_21 (by decide) ?_
      exact y_iret C hW (by rw [ou, ev]; exact hOw) hS (by decide) (by decide) dL_formatLeafLabel_22
    · rw [e9] at ev; cases ev
    · rw [e9] at ev; cases ev
theorem cwL_findLabel : CWW yL_findLabel cL_findLabel 4 (some .int) [(0, 9, 12, 19)] 3 := ⟨tb_i 1463 (by decide +kernel) (by decide +kernel), iniL, by decide +kernel, by decide +kernel⟩
theorem csL_findLabel : Cond.static yL_findLabel ∈ tb := tb_i 1462 (by decide +kernel) (by decide +kernel)
set_option maxRecDepth 100000 in
set_option maxHeartbeats 4000000 in
theorem mL_findLabel {l : Launch} {E : Ev} {a o : Nat} (x1 : Int32) (σ : Mem) (r : Rx) (h : fX11_findLabel 0 x1 σ = some r) (w : Int64) (k : Int32) (hk : (∃ v, r.1 = .inr v ∧ k = 0) ∨ (r.1 = .inl 1 ∧ k = 1)) : Met l yL_findLabel (twc yL_findLabel cL_findLabel 4 (some .int) [(0, 9, 12, 19)]) { frames := 8, cells := 1, slots := 6, locals := 141 } (va_Pc [.ref (a + 0), .int x1, .ref o] (PrL l E a o σ w)) (QzL E a o k r w) 1 6 (Aw a o) := by
  refine cw_of (by decide) (Nat.le_of_ble_eq_true rfl) ?_
  intro p e s m below meth c C hTb hN hW hOw hao hS ls hl
  have hx0 := C.1
  have hb := C.2.1
  have hl : lv_has ls 4 [(0, .ref (a + 0)), (1, .int x1), (2, .ref o)] := hl
  refine lv_aload_n hx0 hb dL_findLabel_0 rfl (lv_at hl 2 rfl) ?_
  refine lv_iconst (v := (0 : Int32)) hx0 hb dL_findLabel_1 (by decide) ?_
  refine lv_aload_n hx0 hb dL_findLabel_2 rfl (lv_at hl 0 rfl) ?_
  refine lv_iload_n hx0 hb dL_findLabel_3 rfl (lv_at hl 1 rfl) ?_
  refine y_callV (L := LC E a) (k := 0) (As := [.int x1]) (rest := [.int (0 : Int32), .ref o]) C hW hS (fun q z => Or.inl z) (aw_od C.2.2.2.2.2.2.2.2 hW hao hS) (kdlt kd0 (by decide)) (ccX11 kd0) kcX11 (mX11_findLabel 0 x1 kd0 σ r h) cwX11_findLabel cvX11_findLabel rfl mlL_93 ⟨by decide, by decide⟩ rfl hl.1 (Nat.le_of_ble_eq_true rfl) ⟨by decide, by decide⟩ dL_findLabel_4 rfl (fun n en H locs q ce hW hS hz hf hq hv hc => ?_) (fun v ev H locs hW hS hz hf => ?_)
  · have hOw := hOw.kept (hf o hOw.lt (aw_ne hao))
    rcases hk with ⟨v9, e9, rfl⟩ | ⟨e9, rfl⟩
    · rw [e9] at en; cases en
    · rw [e9] at en
      cases en
      refine y_catch (n := 1) C hTb hN (by decide) 0 (x := (0, 9, 12, 19)) rfl [] rfl (fun j hj => by
          omega) (by decide) clL_19 (List.mem_of_getElem? (i := 1062) (by decide +kernel)) (by decide +kernel) hq hv hc ?_
      refine lv_astore_n (lv' := [(3, .ref q), (0, .ref (a + 0)), (1, .int x1), (2, .ref o)]) hx0 hb dL_findLabel_12 rfl hl (by decide) rfl (fun ls hl => ?_)
      refine lv_iconst (v := (1 : Int32)) hx0 hb dL_findLabel_13 (by decide) ?_
      exact y_iret C hW (by rw [ou, e9]; exact hOw) hS (by decide) (by decide) dL_findLabel_14
  · have hOw := hOw.kept (hf o hOw.lt (aw_ne hao))
    rcases hk with ⟨v9, e9, rfl⟩ | ⟨e9, rfl⟩
    · refine lv_i2l hx0 hb dL_findLabel_7 rfl ?_
      refine y_last C hW hOw hao hS dL_findLabel_8 (fun H locs hW hOw hS => ?_)
      refine lv_goto (tgt := 15) hx0 hb dL_findLabel_9 (by decide) ?_
      refine lv_iconst (v := (0 : Int32)) hx0 hb dL_findLabel_15 (by decide) ?_
      exact y_iret C hW (by rw [ou, ev]; exact hOw) hS (by decide) (by decide) dL_findLabel_16
    · rw [e9] at ev; cases ev
theorem cwL_sameLabels : CWW yL_sameLabels cL_sameLabels 4 (some .int) [(0, 9, 12, 28)] 3 := ⟨tb_i 1480 (by decide +kernel) (by decide +kernel), iniL, by decide +kernel, by decide +kernel⟩
theorem csL_sameLabels : Cond.static yL_sameLabels ∈ tb := tb_i 1479 (by decide +kernel) (by decide +kernel)
set_option maxRecDepth 100000 in
set_option maxHeartbeats 4000000 in
theorem mL_sameLabels {l : Launch} {E : Ev} {a o : Nat} (x1 : Int32) (σ : Mem) (r : Rx) (h : fX11_sameLabels 0 x1 σ = some r) (w : Int64) (k : Int32) (hk : (∃ v, r.1 = .inr v ∧ k = 0) ∨ (r.1 = .inl 2 ∧ k = 1)) : Met l yL_sameLabels (twc yL_sameLabels cL_sameLabels 4 (some .int) [(0, 9, 12, 28)]) { frames := 8, cells := 1, slots := 6, locals := 142 } (va_Pc [.ref (a + 0), .int x1, .ref o] (PrL l E a o σ w)) (QzL E a o k r w) 1 6 (Aw a o) := by
  refine cw_of (by decide) (Nat.le_of_ble_eq_true rfl) ?_
  intro p e s m below meth c C hTb hN hW hOw hao hS ls hl
  have hx0 := C.1
  have hb := C.2.1
  have hl : lv_has ls 4 [(0, .ref (a + 0)), (1, .int x1), (2, .ref o)] := hl
  refine lv_aload_n hx0 hb dL_sameLabels_0 rfl (lv_at hl 2 rfl) ?_
  refine lv_iconst (v := (0 : Int32)) hx0 hb dL_sameLabels_1 (by decide) ?_
  refine lv_aload_n hx0 hb dL_sameLabels_2 rfl (lv_at hl 0 rfl) ?_
  refine lv_iload_n hx0 hb dL_sameLabels_3 rfl (lv_at hl 1 rfl) ?_
  refine y_callV (L := LC E a) (k := 0) (As := [.int x1]) (rest := [.int (0 : Int32), .ref o]) C hW hS (fun q z => Or.inl z) (aw_od C.2.2.2.2.2.2.2.2 hW hao hS) (kdlt kd0 (by decide)) (ccX11 kd0) kcX11 (mX11_sameLabels 0 x1 kd0 σ r h) cwX11_sameLabels cvX11_sameLabels rfl mlL_96 ⟨by decide, by decide⟩ rfl hl.1 (Nat.le_of_ble_eq_true rfl) ⟨by decide, by decide⟩ dL_sameLabels_4 rfl (fun n en H locs q ce hW hS hz hf hq hv hc => ?_) (fun v ev H locs hW hS hz hf => ?_)
  · have hOw := hOw.kept (hf o hOw.lt (aw_ne hao))
    rcases hk with ⟨v9, e9, rfl⟩ | ⟨e9, rfl⟩
    · rw [e9] at en; cases en
    · rw [e9] at en
      cases en
      refine y_catch (n := 2) C hTb hN (by decide) 0 (x := (0, 9, 12, 28)) rfl [] rfl (fun j hj => by
          omega) (by decide) clL_28 (List.mem_of_getElem? (i := 1104) (by decide +kernel)) (by decide +kernel) hq hv hc ?_
      refine lv_astore_n (lv' := [(3, .ref q), (0, .ref (a + 0)), (1, .int x1), (2, .ref o)]) hx0 hb dL_sameLabels_12 rfl hl (by decide) rfl (fun ls hl => ?_)
      refine lv_iconst (v := (1 : Int32)) hx0 hb dL_sameLabels_13 (by decide) ?_
      exact y_iret C hW (by rw [ou, e9]; exact hOw) hS (by decide) (by decide) dL_sameLabels_14
  · have hOw := hOw.kept (hf o hOw.lt (aw_ne hao))
    rcases hk with ⟨v9, e9, rfl⟩ | ⟨e9, rfl⟩
    · refine lv_i2l hx0 hb dL_sameLabels_7 rfl ?_
      refine y_last C hW hOw hao hS dL_sameLabels_8 (fun H locs hW hOw hS => ?_)
      refine lv_goto (tgt := 15) hx0 hb dL_sameLabels_9 (by decide) ?_
      refine lv_iconst (v := (0 : Int32)) hx0 hb dL_sameLabels_15 (by decide) ?_
      exact y_iret C hW (by rw [ou, ev]; exact hOw) hS (by decide) (by decide) dL_sameLabels_16
    · rw [e9] at ev; cases ev
theorem cwL_opening : CWW yL_opening cL_opening 5 (some .int) [(0, 10, 13, 28), (0, 10, 17, 19)] 4 := ⟨tb_i 1487 (by decide +kernel) (by decide +kernel), iniL, by decide +kernel, by decide +kernel⟩
theorem csL_opening : Cond.static yL_opening ∈ tb := tb_i 1486 (by decide +kernel) (by decide +kernel)
set_option maxRecDepth 100000 in
set_option maxHeartbeats 4000000 in
theorem mL_opening {l : Launch} {E : Ev} {a o : Nat} (x1 : Int32) (x2 : Int32) (σ : Mem) (r : Rx) (h : fX11_opening 0 x1 x2 σ = some r) (w : Int64) (k : Int32) (hk : (∃ v, r.1 = .inr v ∧ k = 0) ∨ (r.1 = .inl 2 ∧ k = 1) ∨ (r.1 = .inl 1 ∧ k = 2)) : Met l yL_opening (twc yL_opening cL_opening 5 (some .int) [(0, 10, 13, 28), (0, 10, 17, 19)]) { frames := 8, cells := 2, slots := 12, locals := 158 } (va_Pc [.ref (a + 0), .int x1, .int x2, .ref o] (PrL l E a o σ w)) (QzL E a o k r w) 2 12 (Aw a o) := by
  refine cw_of (by decide) (Nat.le_of_ble_eq_true rfl) ?_
  intro p e s m below meth c C hTb hN hW hOw hao hS ls hl
  have hx0 := C.1
  have hb := C.2.1
  have hl : lv_has ls 5 [(0, .ref (a + 0)), (1, .int x1), (2, .int x2), (3, .ref o)] := hl
  refine lv_aload_n hx0 hb dL_opening_0 rfl (lv_at hl 3 rfl) ?_
  refine lv_iconst (v := (0 : Int32)) hx0 hb dL_opening_1 (by decide) ?_
  refine lv_aload_n hx0 hb dL_opening_2 rfl (lv_at hl 0 rfl) ?_
  refine lv_iload_n hx0 hb dL_opening_3 rfl (lv_at hl 1 rfl) ?_
  refine lv_iload_n hx0 hb dL_opening_4 rfl (lv_at hl 2 rfl) ?_
  refine y_callV (L := LC E a) (k := 0) (As := [.int x1, .int x2]) (rest := [.int (0 : Int32), .ref o]) C hW hS (fun q z => Or.inl z) (aw_od C.2.2.2.2.2.2.2.2 hW hao hS) (kdlt kd0 (by decide)) (ccX11 kd0) kcX11 (mX11_opening 0 x1 x2 kd0 σ r h) cwX11_opening cvX11_opening rfl mlL_99 ⟨by decide, by decide⟩ rfl hl.1 (Nat.le_of_ble_eq_true rfl) ⟨by decide, by decide⟩ dL_opening_5 rfl (fun n en H locs q ce hW hS hz hf hq hv hc => ?_) (fun v ev H locs hW hS hz hf => ?_)
  · have hOw := hOw.kept (hf o hOw.lt (aw_ne hao))
    rcases hk with ⟨v9, e9, rfl⟩ | ⟨e9, rfl⟩ | ⟨e9, rfl⟩
    · rw [e9] at en; cases en
    · rw [e9] at en
      cases en
      refine y_catch (n := 2) C hTb hN (by decide) 0 (x := (0, 10, 13, 28)) rfl [] rfl (fun j hj => by
          omega) (by decide) clL_28 (List.mem_of_getElem? (i := 1104) (by decide +kernel)) (by decide +kernel) hq hv hc ?_
      refine lv_astore (lv' := [(4, .ref q), (0, .ref (a + 0)), (1, .int x1), (2, .int x2), (3, .ref o)]) hx0 hb dL_opening_13 hl (by decide) rfl (fun ls hl => ?_)
      refine lv_iconst (v := (1 : Int32)) hx0 hb dL_opening_15 (by decide) ?_
      exact y_iret C hW (by rw [ou, e9]; exact hOw) hS (by decide) (by decide) dL_opening_16
    · rw [e9] at en
      cases en
      refine y_catch (n := 1) C hTb hN (by decide) 1 (x := (0, 10, 17, 19)) rfl [2] rfl (fun j hj => by
          rcases (show j = 0 by omega) with rfl
          · exact ⟨_, _, rfl, rfl, by decide, by decide, by decide, clL_28⟩) (by decide) clL_19 (List.mem_of_getElem? (i := 1062) (by decide +kernel)) (by decide +kernel) hq hv hc ?_
      refine lv_astore (lv' := [(4, .ref q), (0, .ref (a + 0)), (1, .int x1), (2, .int x2), (3, .ref o)]) hx0 hb dL_opening_17 hl (by decide) rfl (fun ls hl => ?_)
      refine lv_iconst (v := (2 : Int32)) hx0 hb dL_opening_19 (by decide) ?_
      exact y_iret C hW (by rw [ou, e9]; exact hOw) hS (by decide) (by decide) dL_opening_20
  · have hOw := hOw.kept (hf o hOw.lt (aw_ne hao))
    rcases hk with ⟨v9, e9, rfl⟩ | ⟨e9, rfl⟩ | ⟨e9, rfl⟩
    · refine lv_i2l hx0 hb dL_opening_8 rfl ?_
      refine y_last C hW hOw hao hS dL_opening_9 (fun H locs hW hOw hS => ?_)
      refine lv_goto (tgt := 21) hx0 hb dL_opening_10 (by decide) ?_
      refine lv_iconst (v := (0 : Int32)) hx0 hb dL_opening_21 (by decide) ?_
      exact y_iret C hW (by rw [ou, ev]; exact hOw) hS (by decide) (by decide) dL_opening_22
    · rw [e9] at ev; cases ev
    · rw [e9] at ev; cases ev
theorem cwL_scan : CWW yL_scan cL_scan 5 (some .int) [(0, 10, 13, 28), (0, 10, 17, 19)] 4 := ⟨tb_i 1513 (by decide +kernel) (by decide +kernel), iniL, by decide +kernel, by decide +kernel⟩
theorem csL_scan : Cond.static yL_scan ∈ tb := tb_i 1512 (by decide +kernel) (by decide +kernel)
set_option maxRecDepth 100000 in
set_option maxHeartbeats 4000000 in
theorem mL_scan {l : Launch} {E : Ev} {a o : Nat} (x1 : Int32) (x2 : Int32) (σ : Mem) (r : Rx) (h : fX11_scan 0 x1 x2 σ = some r) (w : Int64) (k : Int32) (hk : (∃ v, r.1 = .inr v ∧ k = 0) ∨ (r.1 = .inl 2 ∧ k = 1) ∨ (r.1 = .inl 1 ∧ k = 2)) : Met l yL_scan (twc yL_scan cL_scan 5 (some .int) [(0, 10, 13, 28), (0, 10, 17, 19)]) { frames := 8, cells := 2, slots := 12, locals := 135 } (va_Pc [.ref (a + 0), .int x1, .int x2, .ref o] (PrL l E a o σ w)) (QzL E a o k r w) 2 12 (Aw a o) := by
  refine cw_of (by decide) (Nat.le_of_ble_eq_true rfl) ?_
  intro p e s m below meth c C hTb hN hW hOw hao hS ls hl
  have hx0 := C.1
  have hb := C.2.1
  have hl : lv_has ls 5 [(0, .ref (a + 0)), (1, .int x1), (2, .int x2), (3, .ref o)] := hl
  refine lv_aload_n hx0 hb dL_scan_0 rfl (lv_at hl 3 rfl) ?_
  refine lv_iconst (v := (0 : Int32)) hx0 hb dL_scan_1 (by decide) ?_
  refine lv_aload_n hx0 hb dL_scan_2 rfl (lv_at hl 0 rfl) ?_
  refine lv_iload_n hx0 hb dL_scan_3 rfl (lv_at hl 1 rfl) ?_
  refine lv_iload_n hx0 hb dL_scan_4 rfl (lv_at hl 2 rfl) ?_
  refine y_callV (L := LC E a) (k := 0) (As := [.int x1, .int x2]) (rest := [.int (0 : Int32), .ref o]) C hW hS (fun q z => Or.inl z) (aw_od C.2.2.2.2.2.2.2.2 hW hao hS) (kdlt kd0 (by decide)) (ccX11 kd0) kcX11 (mX11_scan 0 x1 x2 kd0 σ r h) cwX11_scan cvX11_scan rfl mlL_102 ⟨by decide, by decide⟩ rfl hl.1 (Nat.le_of_ble_eq_true rfl) ⟨by decide, by decide⟩ dL_scan_5 rfl (fun n en H locs q ce hW hS hz hf hq hv hc => ?_) (fun v ev H locs hW hS hz hf => ?_)
  · have hOw := hOw.kept (hf o hOw.lt (aw_ne hao))
    rcases hk with ⟨v9, e9, rfl⟩ | ⟨e9, rfl⟩ | ⟨e9, rfl⟩
    · rw [e9] at en; cases en
    · rw [e9] at en
      cases en
      refine y_catch (n := 2) C hTb hN (by decide) 0 (x := (0, 10, 13, 28)) rfl [] rfl (fun j hj => by
          omega) (by decide) clL_28 (List.mem_of_getElem? (i := 1104) (by decide +kernel)) (by decide +kernel) hq hv hc ?_
      refine lv_astore (lv' := [(4, .ref q), (0, .ref (a + 0)), (1, .int x1), (2, .int x2), (3, .ref o)]) hx0 hb dL_scan_13 hl (by decide) rfl (fun ls hl => ?_)
      refine lv_iconst (v := (1 : Int32)) hx0 hb dL_scan_15 (by decide) ?_
      exact y_iret C hW (by rw [ou, e9]; exact hOw) hS (by decide) (by decide) dL_scan_16
    · rw [e9] at en
      cases en
      refine y_catch (n := 1) C hTb hN (by decide) 1 (x := (0, 10, 17, 19)) rfl [2] rfl (fun j hj => by
          rcases (show j = 0 by omega) with rfl
          · exact ⟨_, _, rfl, rfl, by decide, by decide, by decide, clL_28⟩) (by decide) clL_19 (List.mem_of_getElem? (i := 1062) (by decide +kernel)) (by decide +kernel) hq hv hc ?_
      refine lv_astore (lv' := [(4, .ref q), (0, .ref (a + 0)), (1, .int x1), (2, .int x2), (3, .ref o)]) hx0 hb dL_scan_17 hl (by decide) rfl (fun ls hl => ?_)
      refine lv_iconst (v := (2 : Int32)) hx0 hb dL_scan_19 (by decide) ?_
      exact y_iret C hW (by rw [ou, e9]; exact hOw) hS (by decide) (by decide) dL_scan_20
  · have hOw := hOw.kept (hf o hOw.lt (aw_ne hao))
    rcases hk with ⟨v9, e9, rfl⟩ | ⟨e9, rfl⟩ | ⟨e9, rfl⟩
    · refine lv_i2l hx0 hb dL_scan_8 rfl ?_
      refine y_last C hW hOw hao hS dL_scan_9 (fun H locs hW hOw hS => ?_)
      refine lv_goto (tgt := 21) hx0 hb dL_scan_10 (by decide) ?_
      refine lv_iconst (v := (0 : Int32)) hx0 hb dL_scan_21 (by decide) ?_
      exact y_iret C hW (by rw [ou, ev]; exact hOw) hS (by decide) (by decide) dL_scan_22
    · rw [e9] at ev; cases ev
    · rw [e9] at ev; cases ev
theorem cwL_showing : CWW yL_showing cL_showing 4 (some .int) [(0, 9, 12, 28)] 3 := ⟨tb_i 1523 (by decide +kernel) (by decide +kernel), iniL, by decide +kernel, by decide +kernel⟩
theorem csL_showing : Cond.static yL_showing ∈ tb := tb_i 1522 (by decide +kernel) (by decide +kernel)
set_option maxRecDepth 100000 in
set_option maxHeartbeats 4000000 in
theorem mL_showing {l : Launch} {E : Ev} {a o : Nat} (x1 : Int32) (σ : Mem) (r : Rx) (h : fX11_showing 0 x1 σ = some r) (w : Int64) (k : Int32) (hk : (∃ v, r.1 = .inr v ∧ k = 0) ∨ (r.1 = .inl 2 ∧ k = 1)) : Met l yL_showing (twc yL_showing cL_showing 4 (some .int) [(0, 9, 12, 28)]) { frames := 8, cells := 1, slots := 6, locals := 135 } (va_Pc [.ref (a + 0), .int x1, .ref o] (PrL l E a o σ w)) (QzL E a o k r w) 1 6 (Aw a o) := by
  refine cw_of (by decide) (Nat.le_of_ble_eq_true rfl) ?_
  intro p e s m below meth c C hTb hN hW hOw hao hS ls hl
  have hx0 := C.1
  have hb := C.2.1
  have hl : lv_has ls 4 [(0, .ref (a + 0)), (1, .int x1), (2, .ref o)] := hl
  refine lv_aload_n hx0 hb dL_showing_0 rfl (lv_at hl 2 rfl) ?_
  refine lv_iconst (v := (0 : Int32)) hx0 hb dL_showing_1 (by decide) ?_
  refine lv_aload_n hx0 hb dL_showing_2 rfl (lv_at hl 0 rfl) ?_
  refine lv_iload_n hx0 hb dL_showing_3 rfl (lv_at hl 1 rfl) ?_
  refine y_callV (L := LC E a) (k := 0) (As := [.int x1]) (rest := [.int (0 : Int32), .ref o]) C hW hS (fun q z => Or.inl z) (aw_od C.2.2.2.2.2.2.2.2 hW hao hS) (kdlt kd0 (by decide)) (ccX11 kd0) kcX11 (mX11_showing 0 x1 kd0 σ r h) cwX11_showing cvX11_showing rfl mlL_105 ⟨by decide, by decide⟩ rfl hl.1 (Nat.le_of_ble_eq_true rfl) ⟨by decide, by decide⟩ dL_showing_4 rfl (fun n en H locs q ce hW hS hz hf hq hv hc => ?_) (fun v ev H locs hW hS hz hf => ?_)
  · have hOw := hOw.kept (hf o hOw.lt (aw_ne hao))
    rcases hk with ⟨v9, e9, rfl⟩ | ⟨e9, rfl⟩
    · rw [e9] at en; cases en
    · rw [e9] at en
      cases en
      refine y_catch (n := 2) C hTb hN (by decide) 0 (x := (0, 9, 12, 28)) rfl [] rfl (fun j hj => by
          omega) (by decide) clL_28 (List.mem_of_getElem? (i := 1104) (by decide +kernel)) (by decide +kernel) hq hv hc ?_
      refine lv_astore_n (lv' := [(3, .ref q), (0, .ref (a + 0)), (1, .int x1), (2, .ref o)]) hx0 hb dL_showing_12 rfl hl (by decide) rfl (fun ls hl => ?_)
      refine lv_iconst (v := (1 : Int32)) hx0 hb dL_showing_13 (by decide) ?_
      exact y_iret C hW (by rw [ou, e9]; exact hOw) hS (by decide) (by decide) dL_showing_14
  · have hOw := hOw.kept (hf o hOw.lt (aw_ne hao))
    rcases hk with ⟨v9, e9, rfl⟩ | ⟨e9, rfl⟩
    · refine lv_i2l hx0 hb dL_showing_7 rfl ?_
      refine y_last C hW hOw hao hS dL_showing_8 (fun H locs hW hOw hS => ?_)
      refine lv_goto (tgt := 15) hx0 hb dL_showing_9 (by decide) ?_
      refine lv_iconst (v := (0 : Int32)) hx0 hb dL_showing_15 (by decide) ?_
      exact y_iret C hW (by rw [ou, ev]; exact hOw) hS (by decide) (by decide) dL_showing_16
    · rw [e9] at ev; cases ev
theorem cwL_nextUncovered : CWW yL_nextUncovered cL_nextUncovered 4 (some .int) [(0, 9, 12, 19)] 3 := ⟨tb_i 1530 (by decide +kernel) (by decide +kernel), iniL, by decide +kernel, by decide +kernel⟩
theorem csL_nextUncovered : Cond.static yL_nextUncovered ∈ tb := tb_i 1529 (by decide +kernel) (by decide +kernel)
set_option maxRecDepth 100000 in
set_option maxHeartbeats 4000000 in
theorem mL_nextUncovered {l : Launch} {E : Ev} {a o : Nat} (x1 : Int32) (σ : Mem) (r : Rx) (h : fX11_nextUncovered 0 x1 σ = some r) (w : Int64) (k : Int32) (hk : (∃ v, r.1 = .inr v ∧ k = 0) ∨ (r.1 = .inl 1 ∧ k = 1)) : Met l yL_nextUncovered (twc yL_nextUncovered cL_nextUncovered 4 (some .int) [(0, 9, 12, 19)]) { frames := 8, cells := 1, slots := 6, locals := 136 } (va_Pc [.ref (a + 0), .int x1, .ref o] (PrL l E a o σ w)) (QzL E a o k r w) 1 6 (Aw a o) := by
  refine cw_of (by decide) (Nat.le_of_ble_eq_true rfl) ?_
  intro p e s m below meth c C hTb hN hW hOw hao hS ls hl
  have hx0 := C.1
  have hb := C.2.1
  have hl : lv_has ls 4 [(0, .ref (a + 0)), (1, .int x1), (2, .ref o)] := hl
  refine lv_aload_n hx0 hb dL_nextUncovered_0 rfl (lv_at hl 2 rfl) ?_
  refine lv_iconst (v := (0 : Int32)) hx0 hb dL_nextUncovered_1 (by decide) ?_
  refine lv_aload_n hx0 hb dL_nextUncovered_2 rfl (lv_at hl 0 rfl) ?_
  refine lv_iload_n hx0 hb dL_nextUncovered_3 rfl (lv_at hl 1 rfl) ?_
  refine y_callV (L := LC E a) (k := 0) (As := [.int x1]) (rest := [.int (0 : Int32), .ref o]) C hW hS (fun q z => Or.inl z) (aw_od C.2.2.2.2.2.2.2.2 hW hao hS) (kdlt kd0 (by decide)) (ccX11 kd0) kcX11 (mX11_nextUncovered 0 x1 kd0 σ r h) cwX11_nextUncovered cvX11_nextUncovered rfl mlL_108 ⟨by decide, by decide⟩ rfl hl.1 (Nat.le_of_ble_eq_true rfl) ⟨by decide, by decide⟩ dL_nextUncovered_4 rfl (fun n en H locs q ce hW hS hz hf hq hv hc => ?_) (fun v ev H locs hW hS hz hf => ?_)
  · have hOw := hOw.kept (hf o hOw.lt (aw_ne hao))
    rcases hk with ⟨v9, e9, rfl⟩ | ⟨e9, rfl⟩
    · rw [e9] at en; cases en
    · rw [e9] at en
      cases en
      refine y_catch (n := 1) C hTb hN (by decide) 0 (x := (0, 9, 12, 19)) rfl [] rfl (fun j hj => by
          omega) (by decide) clL_19 (List.mem_of_getElem? (i := 1062) (by decide +kernel)) (by decide +kernel) hq hv hc ?_
      refine lv_astore_n (lv' := [(3, .ref q), (0, .ref (a + 0)), (1, .int x1), (2, .ref o)]) hx0 hb dL_nextUncovered_12 rfl hl (by decide) rfl (fun ls hl => ?_)
      refine lv_iconst (v := (1 : Int32)) hx0 hb dL_nextUncovered_13 (by decide) ?_
      exact y_iret C hW (by rw [ou, e9]; exact hOw) hS (by decide) (by decide) dL_nextUncovered_14
  · have hOw := hOw.kept (hf o hOw.lt (aw_ne hao))
    rcases hk with ⟨v9, e9, rfl⟩ | ⟨e9, rfl⟩
    · refine lv_i2l hx0 hb dL_nextUncovered_7 rfl ?_
      refine y_last C hW hOw hao hS dL_nextUncovered_8 (fun H locs hW hOw hS => ?_)
      refine lv_goto (tgt := 15) hx0 hb dL_nextUncovered_9 (by decide) ?_
      refine lv_iconst (v := (0 : Int32)) hx0 hb dL_nextUncovered_15 (by decide) ?_
      exact y_iret C hW (by rw [ou, ev]; exact hOw) hS (by decide) (by decide) dL_nextUncovered_16
    · rw [e9] at ev; cases ev
theorem cwL_firstMisplaced : CWW yL_firstMisplaced cL_firstMisplaced 3 (some .int) [(0, 8, 11, 114)] 2 := ⟨tb_i 1537 (by decide +kernel) (by decide +kernel), iniL, by decide +kernel, by decide +kernel⟩
theorem csL_firstMisplaced : Cond.static yL_firstMisplaced ∈ tb := tb_i 1536 (by decide +kernel) (by decide +kernel)
set_option maxRecDepth 100000 in
set_option maxHeartbeats 4000000 in
theorem mL_firstMisplaced {l : Launch} {E : Ev} {a o : Nat} (σ : Mem) (r : Rx) (h : fX11_firstMisplaced 0 σ = some r) (w : Int64) (k : Int32) (hk : (∃ v, r.1 = .inr v ∧ k = 0) ∨ (r.1 = .inl 3 ∧ k = 1)) : Met l yL_firstMisplaced (twc yL_firstMisplaced cL_firstMisplaced 3 (some .int) [(0, 8, 11, 114)]) { frames := 7, cells := 1, slots := 6, locals := 134 } (va_Pc [.ref (a + 0), .ref o] (PrL l E a o σ w)) (QzL E a o k r w) 1 6 (Aw a o) := by
  refine cw_of (by decide) (Nat.le_of_ble_eq_true rfl) ?_
  intro p e s m below meth c C hTb hN hW hOw hao hS ls hl
  have hx0 := C.1
  have hb := C.2.1
  have hl : lv_has ls 3 [(0, .ref (a + 0)), (1, .ref o)] := hl
  refine lv_aload_n hx0 hb dL_firstMisplaced_0 rfl (lv_at hl 1 rfl) ?_
  refine lv_iconst (v := (0 : Int32)) hx0 hb dL_firstMisplaced_1 (by decide) ?_
  refine lv_aload_n hx0 hb dL_firstMisplaced_2 rfl (lv_at hl 0 rfl) ?_
  refine y_callV (L := LC E a) (k := 0) (As := []) (rest := [.int (0 : Int32), .ref o]) C hW hS (fun q z => Or.inl z) (aw_od C.2.2.2.2.2.2.2.2 hW hao hS) (kdlt kd0 (by decide)) (ccX11 kd0) kcX11 (mX11_firstMisplaced 0 kd0 σ r h) cwX11_firstMisplaced cvX11_firstMisplaced rfl mlL_111 ⟨by decide, by decide⟩ rfl hl.1 (Nat.le_of_ble_eq_true rfl) ⟨by decide, by decide⟩ dL_firstMisplaced_3 rfl (fun n en H locs q ce hW hS hz hf hq hv hc => ?_) (fun v ev H locs hW hS hz hf => ?_)
  · have hOw := hOw.kept (hf o hOw.lt (aw_ne hao))
    rcases hk with ⟨v9, e9, rfl⟩ | ⟨e9, rfl⟩
    · rw [e9] at en; cases en
    · rw [e9] at en
      cases en
      refine y_catch (n := 3) C hTb hN (by decide) 0 (x := (0, 8, 11, 114)) rfl [] rfl (fun j hj => by
          omega) (by decide) clL_114 (List.mem_of_getElem? (i := 1549) (by decide +kernel)) (by decide +kernel) hq hv hc ?_
      refine lv_astore_n (lv' := [(2, .ref q), (0, .ref (a + 0)), (1, .ref o)]) hx0 hb dL_firstMisplaced_11 rfl hl (by decide) rfl (fun ls hl => ?_)
      refine lv_iconst (v := (1 : Int32)) hx0 hb dL_firstMisplaced_12 (by decide) ?_
      exact y_iret C hW (by rw [ou, e9]; exact hOw) hS (by decide) (by decide) dL_firstMisplaced_13
  · have hOw := hOw.kept (hf o hOw.lt (aw_ne hao))
    rcases hk with ⟨v9, e9, rfl⟩ | ⟨e9, rfl⟩
    · refine lv_i2l hx0 hb dL_firstMisplaced_6 rfl ?_
      refine y_last C hW hOw hao hS dL_firstMisplaced_7 (fun H locs hW hOw hS => ?_)
      refine lv_goto (tgt := 14) hx0 hb dL_firstMisplaced_8 (by decide) ?_
      refine lv_iconst (v := (0 : Int32)) hx0 hb dL_firstMisplaced_14 (by decide) ?_
      exact y_iret C hW (by rw [ou, ev]; exact hOw) hS (by decide) (by decide) dL_firstMisplaced_15
    · rw [e9] at ev; cases ev
theorem cwL_undo : CWW yL_undo cL_undo 3 (some .int) [(0, 8, 11, 13)] 2 := ⟨tb_i 1565 (by decide +kernel) (by decide +kernel), iniL, by decide +kernel, by decide +kernel⟩
theorem csL_undo : Cond.static yL_undo ∈ tb := tb_i 1564 (by decide +kernel) (by decide +kernel)
set_option maxRecDepth 100000 in
set_option maxHeartbeats 4000000 in
theorem mL_undo {l : Launch} {E : Ev} {a o : Nat} (σ : Mem) (r : Rx) (h : fX11_undo 0 σ = some r) (w : Int64) (k : Int32) (hk : (∃ v, r.1 = .inr v ∧ k = 0) ∨ (r.1 = .inl 0 ∧ k = 1)) : Met l yL_undo (twc yL_undo cL_undo 3 (some .int) [(0, 8, 11, 13)]) { frames := 7, cells := 1, slots := 6, locals := 147 } (va_Pc [.ref (a + 0), .ref o] (PrL l E a o σ w)) (QzL E a o k r w) 1 6 (Aw a o) := by
  refine cw_of (by decide) (Nat.le_of_ble_eq_true rfl) ?_
  intro p e s m below meth c C hTb hN hW hOw hao hS ls hl
  have hx0 := C.1
  have hb := C.2.1
  have hl : lv_has ls 3 [(0, .ref (a + 0)), (1, .ref o)] := hl
  refine lv_aload_n hx0 hb dL_undo_0 rfl (lv_at hl 1 rfl) ?_
  refine lv_iconst (v := (0 : Int32)) hx0 hb dL_undo_1 (by decide) ?_
  refine lv_aload_n hx0 hb dL_undo_2 rfl (lv_at hl 0 rfl) ?_
  refine y_callV (L := LC E a) (k := 0) (As := []) (rest := [.int (0 : Int32), .ref o]) C hW hS (fun q z => Or.inl z) (aw_od C.2.2.2.2.2.2.2.2 hW hao hS) (kdlt kd0 (by decide)) (ccX11 kd0) kcX11 (mX11_undo 0 kd0 σ r h) cwX11_undo cvX11_undo rfl mlL_116 ⟨by decide, by decide⟩ rfl hl.1 (Nat.le_of_ble_eq_true rfl) ⟨by decide, by decide⟩ dL_undo_3 rfl (fun n en H locs q ce hW hS hz hf hq hv hc => ?_) (fun v ev H locs hW hS hz hf => ?_)
  · have hOw := hOw.kept (hf o hOw.lt (aw_ne hao))
    rcases hk with ⟨v9, e9, rfl⟩ | ⟨e9, rfl⟩
    · rw [e9] at en; cases en
    · rw [e9] at en
      cases en
      refine y_catch (n := 0) C hTb hN (by decide) 0 (x := (0, 8, 11, 13)) rfl [] rfl (fun j hj => by
          omega) (by decide) clL_13 (List.mem_of_getElem? (i := 981) (by decide +kernel)) (by decide +kernel) hq hv hc ?_
      refine lv_astore_n (lv' := [(2, .ref q), (0, .ref (a + 0)), (1, .ref o)]) hx0 hb dL_undo_11 rfl hl (by decide) rfl (fun ls hl => ?_)
      refine lv_iconst (v := (1 : Int32)) hx0 hb dL_undo_12 (by decide) ?_
      exact y_iret C hW (by rw [ou, e9]; exact hOw) hS (by decide) (by decide) dL_undo_13
  · have hOw := hOw.kept (hf o hOw.lt (aw_ne hao))
    rcases hk with ⟨v9, e9, rfl⟩ | ⟨e9, rfl⟩
    · refine lv_i2l hx0 hb dL_undo_6 rfl ?_
      refine y_last C hW hOw hao hS dL_undo_7 (fun H locs hW hOw hS => ?_)
      refine lv_goto (tgt := 14) hx0 hb dL_undo_8 (by decide) ?_
      refine lv_iconst (v := (0 : Int32)) hx0 hb dL_undo_14 (by decide) ?_
      exact y_iret C hW (by rw [ou, ev]; exact hOw) hS (by decide) (by decide) dL_undo_15
    · rw [e9] at ev; cases ev
theorem cwL_restore : CWW yL_restore cL_restore 3 (some .int) [(0, 8, 11, 13)] 2 := ⟨tb_i 1577 (by decide +kernel) (by decide +kernel), iniL, by decide +kernel, by decide +kernel⟩
theorem csL_restore : Cond.static yL_restore ∈ tb := tb_i 1576 (by decide +kernel) (by decide +kernel)
set_option maxRecDepth 100000 in
set_option maxHeartbeats 4000000 in
theorem mL_restore {l : Launch} {E : Ev} {a o : Nat} (σ : Mem) (r : Rx) (h : fX11_restore 0 σ = some r) (w : Int64) (k : Int32) (hk : (∃ v, r.1 = .inr v ∧ k = 0) ∨ (r.1 = .inl 0 ∧ k = 1)) : Met l yL_restore (twc yL_restore cL_restore 3 (some .int) [(0, 8, 11, 13)]) { frames := 7, cells := 1, slots := 6, locals := 124 } (va_Pc [.ref (a + 0), .ref o] (PrL l E a o σ w)) (QzL E a o k r w) 1 6 (Aw a o) := by
  refine cw_of (by decide) (Nat.le_of_ble_eq_true rfl) ?_
  intro p e s m below meth c C hTb hN hW hOw hao hS ls hl
  have hx0 := C.1
  have hb := C.2.1
  have hl : lv_has ls 3 [(0, .ref (a + 0)), (1, .ref o)] := hl
  refine lv_aload_n hx0 hb dL_restore_0 rfl (lv_at hl 1 rfl) ?_
  refine lv_iconst (v := (0 : Int32)) hx0 hb dL_restore_1 (by decide) ?_
  refine lv_aload_n hx0 hb dL_restore_2 rfl (lv_at hl 0 rfl) ?_
  refine y_callV (L := LC E a) (k := 0) (As := []) (rest := [.int (0 : Int32), .ref o]) C hW hS (fun q z => Or.inl z) (aw_od C.2.2.2.2.2.2.2.2 hW hao hS) (kdlt kd0 (by decide)) (ccX11 kd0) kcX11 (mX11_restore 0 kd0 σ r h) cwX11_restore cvX11_restore rfl mlL_119 ⟨by decide, by decide⟩ rfl hl.1 (Nat.le_of_ble_eq_true rfl) ⟨by decide, by decide⟩ dL_restore_3 rfl (fun n en H locs q ce hW hS hz hf hq hv hc => ?_) (fun v ev H locs hW hS hz hf => ?_)
  · have hOw := hOw.kept (hf o hOw.lt (aw_ne hao))
    rcases hk with ⟨v9, e9, rfl⟩ | ⟨e9, rfl⟩
    · rw [e9] at en; cases en
    · rw [e9] at en
      cases en
      refine y_catch (n := 0) C hTb hN (by decide) 0 (x := (0, 8, 11, 13)) rfl [] rfl (fun j hj => by
          omega) (by decide) clL_13 (List.mem_of_getElem? (i := 981) (by decide +kernel)) (by decide +kernel) hq hv hc ?_
      refine lv_astore_n (lv' := [(2, .ref q), (0, .ref (a + 0)), (1, .ref o)]) hx0 hb dL_restore_11 rfl hl (by decide) rfl (fun ls hl => ?_)
      refine lv_iconst (v := (1 : Int32)) hx0 hb dL_restore_12 (by decide) ?_
      exact y_iret C hW (by rw [ou, e9]; exact hOw) hS (by decide) (by decide) dL_restore_13
  · have hOw := hOw.kept (hf o hOw.lt (aw_ne hao))
    rcases hk with ⟨v9, e9, rfl⟩ | ⟨e9, rfl⟩
    · refine lv_i2l hx0 hb dL_restore_6 rfl ?_
      refine y_last C hW hOw hao hS dL_restore_7 (fun H locs hW hOw hS => ?_)
      refine lv_goto (tgt := 14) hx0 hb dL_restore_8 (by decide) ?_
      refine lv_iconst (v := (0 : Int32)) hx0 hb dL_restore_14 (by decide) ?_
      exact y_iret C hW (by rw [ou, ev]; exact hOw) hS (by decide) (by decide) dL_restore_15
    · rw [e9] at ev; cases ev
