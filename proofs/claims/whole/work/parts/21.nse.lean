/-! AN EXCEPTION WHOSE CONSTRUCTOR BEARS ANOTHER NUMBER: NoSuchElementException(String) goes to RuntimeException(String) by entry 13 of its pool; the library's own law is for entry 7 alone. What follows is that law's course with the first step by its own code. -/
def nxAt (own : String) (ic : Nat) (cls Y0 : String) (names : List String) (ix : Nat) (bytes : ByteArray) : List Cond :=
  Bundle.throwableAtoms ++ Bundle.throwableSAtoms ++ (Bundle.passSAtoms cls Y0 ix bytes ++ Bundle.chainSAtoms Y0 names) ++
  [.methodLink own ic (Bundle.initS cls), .instantiable cls 6, .castable cls cls, .selects cls Bundle.tFill0 Bundle.tFill0, .selects cls Bundle.tFill Bundle.tFill,
   .lays cls Bundle.tN "cause" "Ljava/lang/Throwable;", .lays cls Bundle.tN "stackTrace" Bundle.steD, .lays cls Bundle.tN "suppressedExceptions" Bundle.listD, .lays cls Bundle.tN "detailMessage" "Ljava/lang/String;",
   .isRef (.static Bundle.tN "UNASSIGNED_STACK" Bundle.steD), .isRef (.static Bundle.tN "SUPPRESSED_SENTINEL" Bundle.listD),
   .fieldLink Bundle.tN 198 Bundle.tN "backtrace" "Ljava/lang/Object;", .lays Bundle.tN Bundle.tN "backtrace" "Ljava/lang/Object;", .lays cls Bundle.tN "backtrace" "Ljava/lang/Object;"]
set_option maxHeartbeats 4000000 in
theorem nx_ctor {p : Program} {l : Launch} {e : Env} {R : Room} {s : State} {m₀ : MethodId} {args : Array Value} {below : List Frame} {meth : Method} {c : Code} {W : State} {locs : List Loc} {cells slots : Nat} (X : Stand p l e R s m₀ args below meth c W locs cells slots) (hexec : p.tables.exec = Jvm.exec) (htr : e.platform.stackTraces = false) {own cls Y0 : String} {names : List String} {ic ix : Nat} {bytes : ByteArray}
    (dd0 : decode bytes 0 = .ok (.aload_n 0, 1)) (dd1 : decode bytes 1 = .ok (.aload_n 1, 1)) (dd2 : decode bytes 2 = .ok (.invokespecial ix, 3)) (dd5 : decode bytes 5 = .ok (.return_, 1))
    (hown : s.vm.findClass own = some m₀.cls) (hcls : Bundle.fit cls = true) (hY0 : Bundle.fit Y0 = true) (hnames : ∀ n ∈ names, Bundle.fit n = true)
    (h : ∀ a ∈ nxAt own ic cls Y0 names ix bytes, a.before args s = true)
    (hlocs : ∀ x ∈ locs, ∀ cell, s.heap[x.base]? = some cell → cell.vm.isStatics = false)
    {a : Addr} {cX : ClassId} {kX : Class} (hfoundX : s.vm.findClass cls = some cX) (hkX : s.vm.classes[cX]? = some kX) (hcell : W.heap[a]? = some (freshCell cX kX)) (hnew : s.heap.size ≤ a)
    {msg : Value} (hmsg : msg.isRef = true)
    {g : JFrame} (hg : g.method = m₀) (hsize : g.locals.size = c.maxLocals) (hlocked : g.locked = none) (hentered : g.entered = []) {rest : List Value} (hstack : g.stack = msg :: .ref a :: .ref a :: rest)
    (hd6 : decode c.code g.pc = .ok (.invokespecial ic, 3)) (hd9 : decode c.code (g.pc + 3) = .ok (.athrow, 1)) (hout : ∀ x ∈ c.exceptionTable.toList, covers x (g.pc + 3) = false)
    (hRframes : names.length + 4 < R.frames) (hRlocals : 2 * g.monitorRoom + ((Value.ref a :: rest).map fun v => v.category).sum + (13 * (names.length + 2) + 42) ≤ R.locals) (hlocks : meth.locks = false) :
    ∃ U : State, Steps p.tables e below (W.setTop g) U ∧ U.status = .running ∧ Ended U below (.threw a) ∧ s.WarmedH U.vm ∧ s.sameButNew ({ U with vm := s.vm } : State) locs cells slots ∧
      ∃ ce, U.heap[a]? = some ce ∧ ce.vm = .none ∧ s.vm.findClass cls = some ce.cls := by
  have howns : e.platform.frameOwnsMonitors = true := by rw [X.admits.platform]
  have hfin : e.platform.finalization = false := by rw [X.admits.platform]
  have hpl : e.platform.magicAccessors = ({} : Platform).magicAccessors := by rw [X.admits.platform]
  have a' : ∀ x, x ∈ nxAt own ic cls Y0 names ix bytes → x.holds args s none s [] = true := fun x hx => h x hx
  obtain ⟨T, Z0, L, -, Y⟩ := ThrowableC.of_atoms (args := args) howns hfin hpl (fun x hx => h x (by simp [nxAt, hx]))
  obtain ⟨Z, M, LZ, LM, hnZ⟩ := Init0T.ofS_atoms (args := args) hpl L Y (fun x hx => h x (by simp [nxAt, hx]))
  obtain ⟨P1, L1, hP1m, hs1⟩ := PassC.ofS_atoms (args := args) (s := s) hpl (X := cls) (Y := Y0) (Bundle.fit_spec hcls).1 (Bundle.fit_spec hY0).2 dd0 dd1 dd2 dd5 (fun x hx => h x (by simp [nxAt, hx]))
  obtain ⟨P2, Ps2, hlen2, L2, hL2, hP2m, hsup2, hpass2⟩ := Bundle.chainS (args := args) hpl hnZ names Y0 hY0 hnames (fun x hx => h x (by simp [nxAt, hx]))
  have hlink1 : P1.sup = firstOf (Z.m T.toThrowableT) ((P2 :: Ps2).map (·.toPassT)) := Option.some.inj (hs1.symm.trans hP2m)
  have hfound : s.vm.findClass cls = some P1.m.cls := findClass_of_methodNamed hP1m
  cases Option.some.inj (hfoundX.symm.trans hfound)
  obtain ⟨c1, kX', hc1, hk, hord, -, -, hn6⟩ := Cond.instantiable_spec (a' (.instantiable cls 6) (by simp [nxAt]))
  cases Option.some.inj (hc1.symm.trans hfound)
  cases Option.some.inj (hkX.symm.trans hk)
  have hsel0 : selectMethod e.platform s.vm P1.m.cls T.fill0 = .method T.fill0 := by
    obtain ⟨c2, r2, m2, q1, q2, q3, q4, -⟩ := Cond.selects_spec (a' (.selects cls Bundle.tFill0 Bundle.tFill0) (by simp [nxAt]))
    cases Option.some.inj (q1.symm.trans hfound)
    cases Option.some.inj (q2.symm.trans (State.methodFound?_of_named Y.fill0 (by decide)))
    cases Option.some.inj (q3.symm.trans Y.fill0)
    rw [Launch.admits_selectMethod X.admits]; exact q4
  have hselF : selectMethod e.platform s.vm P1.m.cls T.fill = .method T.fill := by
    obtain ⟨c2, r2, m2, q1, q2, q3, q4, -⟩ := Cond.selects_spec (a' (.selects cls Bundle.tFill Bundle.tFill) (by simp [nxAt]))
    cases Option.some.inj (q1.symm.trans hfound)
    cases Option.some.inj (q2.symm.trans (State.methodFound?_of_named Y.fill (by decide)))
    cases Option.some.inj (q3.symm.trans Y.fill)
    rw [Launch.admits_selectMethod X.admits]; exact q4
  obtain ⟨cellS0, hcS0, hiss⟩ := Y.statics
  obtain ⟨u0, hu0⟩ := Cond.staticRefV Y.unassigned L.unassignedStatic L.statics hcS0 hiss (a' (.isRef (.static Bundle.tN "UNASSIGNED_STACK" Bundle.steD)) (by simp [nxAt]))
  obtain ⟨sen, hsen⟩ := Cond.staticRefV Y.sentinel L.sentinelStatic L.statics hcS0 hiss (a' (.isRef (.static Bundle.tN "SUPPRESSED_SENTINEL" Bundle.listD)) (by simp [nxAt]))
  obtain ⟨ci198, i198, fB, hk198, hg198, ha198, hsB, -, hnB, htB, hffB⟩ := Cond.ownField (t := .object "java/lang/Object") Y.found L.cls (by decide +kernel) (a' (.fieldLink Bundle.tN 198 Bundle.tN "backtrace" "Ljava/lang/Object;") (by simp [nxAt])) (a' (.lays Bundle.tN Bundle.tN "backtrace" "Ljava/lang/Object;") (by simp [nxAt])) e.platform hpl
  obtain ⟨cellS, hcS', heS, -, hkeep⟩ := X.same.2.2.2.2.2 T.aS cellS0 hcS0
  have hcellS : W.heap[T.aS]? = some cellS := hcS'
  have hout' : ∀ i, (⟨T.aS, i⟩ : Loc) ∉ locs := fun i hmem => by
    have := hlocs _ hmem cellS0 hcS0
    rw [hiss] at this; cases this
  have hknownS : cellS.vm ≠ .unknown := by
    rw [heS]; intro hu
    rw [show cellS0.vm = .unknown from hu] at hiss
    cases hiss
  have hneS : T.aS ≠ a := Nat.ne_of_lt (Nat.lt_of_lt_of_le (Array.getElem?_eq_some_iff.mp hcS0).1 hnew)
  obtain ⟨iM, hffM⟩ := Y.msg
  obtain ⟨tyC, dC, hdC, hdnC⟩ := Cond.laysAt hfound hk Y.cause (a' (.lays cls Bundle.tN "cause" "Ljava/lang/Throwable;") (by simp [nxAt]))
  obtain ⟨tyS, dS, hdS, hdnS⟩ := Cond.laysAt hfound hk Y.stack (a' (.lays cls Bundle.tN "stackTrace" Bundle.steD) (by simp [nxAt]))
  obtain ⟨tyP, dP, hdP, hdnP⟩ := Cond.laysAt hfound hk Y.supp (a' (.lays cls Bundle.tN "suppressedExceptions" Bundle.listD) (by simp [nxAt]))
  obtain ⟨tyM, dM, hdM, hdnM⟩ := Cond.laysAt hfound hk hffM (a' (.lays cls Bundle.tN "detailMessage" "Ljava/lang/String;") (by simp [nxAt]))
  obtain ⟨tyB, dB, hdB, hdnB⟩ := Cond.laysAt hfound hk hffB (a' (.lays cls Bundle.tN "backtrace" "Ljava/lang/Object;") (by simp [nxAt]))
  have bC := Cond.laysApart hdB hdC hdnB hdnC (by rw [hnB, Y.causeName]; decide)
  have bS := Cond.laysApart hdB hdS hdnB hdnS (by rw [hnB, Y.stackName]; decide)
  have bP := Cond.laysApart hdB hdP hdnB hdnP (by rw [hnB, Y.suppName]; decide)
  have hskip : SkipFacts T e.platform s (fun u => u) u0 ((preparedCellV T.toThrowableT (freshCell P1.m.cls kX) a u0 sen).withEntry W.cur) :=
    ⟨{ ci198 := ci198, i198 := i198, fBack := fB }, ⟨hk198, hg198, ha198, hsB⟩, by
      have := fresh_default (c := P1.m.cls) tyB
      rw [htB] at this
      simpa [preparedCellV, Cell.setSlot, Cell.withEntry, Array.getElem?_setIfInBounds, bC, bS, bP, bC.symm, bS.symm, bP.symm, defaultValue] using this, fun _ _ => rfl⟩
  obtain ⟨tm, methC, cdC, kC, vm₁, hnC, -, -, -, -, -, -, -, hW₁, st1⟩ := Steps.initColdS (tb := p.tables) (e := e) (below := below) (s := s) (U := W) X.here hexec X.warmed hpl hown (t := Bundle.initS cls) rfl rfl (Bundle.fit_spec hcls).2
    (a' (.methodLink own ic (Bundle.initS cls)) (by simp [nxAt])) (h (.instanceMethod (Bundle.initS cls)) (by simp [nxAt, Bundle.passSAtoms])) (bytes := bytes) (maxL := 2) (h (.code (Bundle.initS cls) bytes 2 none) (by simp [nxAt, Bundle.passSAtoms]))
    (f := g) hg (a := a) (msg := msg) (rest := .ref a :: rest) hstack hd6
  cases Option.some.inj (hnC.symm.trans hP1m)
  have X₁ := X.noted hW₁
  obtain ⟨vm₂, X₂, st2⟩ := X₁.ctorMessageOffV hexec (g := { g with stack := .ref a :: rest }) hg hsize T L Z LZ M LM (P1 :: P2 :: Ps2)
    (fun P hP => by
      rcases List.mem_cons.mp hP with rfl | hP
      · exact L1
      · rcases List.mem_cons.mp hP with rfl | hP
        · exact L2
        · exact hL2 P hP) ⟨hlink1, hsup2, hpass2⟩ (u0 := u0) (sen := sen) (self := a) hmsg (cell := freshCell P1.m.cls kX) (cellS := cellS)
    hcell (fun _ => by simp) (by simp) rfl rfl hsel0 hselF hcellS hneS hknownS (by rw [hkeep _ (hout' _)]; exact hu0) (by rw [hkeep _ (hout' _)]; exact hsen)
    (Takes.of_laid hk hord tyC (by rw [Y.causeType]; rfl)) (Takes.of_laid hk hord tyS (by rw [Y.stackType]; exact fits_refV_array _ u0)) (Takes.of_laid hk hord tyP (by rw [Y.suppType]; exact fits_refV_object _ sen))
    (Takes.of_laid hk hord tyM (by rw [Y.msgType]; exact fits_refV_object _ ⟨msg, hmsg⟩)) Y.objLocals hskip htr [] hd6
    (by simp only [List.length_cons, hlen2]; omega) (by simp only [List.length_cons, hlen2]; exact hRlocals)
  obtain ⟨hwalk, hrun, hended, hWU, hsame⟩ := X₂.athrowLeaves hexec (g := { g with stack := .ref a :: rest, pc := g.pc + 3 }) hg hlocked hentered hout (a := a) (rest := rest) rfl hd9
  have hlt : a < ((W.setVm vm₁).setVm vm₂).heap.size := (Array.getElem?_eq_some_iff.mp hcell).1
  have hU := heapAt_setCell_self (s := (W.setVm vm₁).setVm vm₂) (plainBareV T.toThrowableT (freshCell P1.m.cls kX) a u0 sen msg) hlt
  refine ⟨_, st1 _ (fun acts => ?_), hrun, hended, hWU, hsame.weaken (fun y hy hlt' => ?_) (Nat.le_refl _) (Nat.le_refl _), _, hU, rfl, hfound⟩
  · rw [doInvoke_state]
    exact st2 _ hwalk
  · rcases List.mem_append.mp hy with h1 | h1
    · exact h1
    · exfalso
      have hb : y.base = a := by
        simp only [List.mem_cons, List.not_mem_nil, or_false] at h1
        rcases h1 with rfl | rfl | rfl | rfl | rfl <;> rfl
      rw [hb] at hlt'
      exact Nat.not_lt.mpr hnew hlt'
abbrev nxB : ByteArray := prog_32_method_4_code
theorem nx_d0 : decode nxB 0 = .ok (.aload_n 0, 1) := by decide +kernel
theorem nx_d1 : decode nxB 1 = .ok (.aload_n 1, 1) := by decide +kernel
theorem nx_d2 : decode nxB 2 = .ok (.invokespecial 13, 3) := by decide +kernel
theorem nx_d5 : decode nxB 5 = .ok (.return_, 1) := by decide +kernel
def nxW : List Cond := (nxAt RX11 442 "java/util/NoSuchElementException" "java/lang/RuntimeException" ["java/lang/Exception"] 13 nxB).filter vx_no
theorem xat3 : ∀ w ∈ nxW, w ∈ lw_tbl ∧ (goodWord w = true ∨ nword w = true) := by decide +kernel
theorem xgd3 : ∀ w ∈ Cond.classLink RX11 438 "java/util/NoSuchElementException" :: Cond.initialized "java/util/NoSuchElementException" :: nxW, vx_ot w = true := by decide +kernel
section RowsY
variable {p : Program} {l : Launch} {e : Env} {R : Room} {s : State} {m : MethodId} {args : Array Value} {below : List Frame} {meth : Method} {c : Code} {H : Heap} {locs : List Loc} {cells slots mc ms : Nat} {Q : State → Prop}
variable {E : Ev} {L : Lay} {σ : Mem} {cc : ByteArray} {nL : Nat} {own : String} {rt : Option FieldType} {pc : Nat} {ls : Array Slot} {rest : List Value}
set_option maxHeartbeats 4000000 in
theorem x_throwN (C : Cx p l s m args meth c E cc nL RX11 rt) (hT : ∀ x ∈ c.exceptionTable.toList, False) {is si : Nat} {tx : String} {Qc : Array Value → State → Outcome → State → Prop} (hsi : strL[si]? = some (RX11, is, tx))
    (hW : Wd E L σ H) (hS : va_S (La L) s.heap H locs) (hls : ls.size = nL) (hR : 5 < R.frames ∧ (rest.map fun v => v.category).sum + 82 ≤ R.locals) (hR2 : cells + 1 ≤ R.cells ∧ slots + 6 ≤ R.slots) (hc : cells + 1 ≤ mc) (hs : slots + 6 ≤ ms)
    (d0 : decode cc pc = .ok (.new 438, 3)) (d3 : decode cc (pc + 3) = .ok (.dup, 1)) (d4 : decode cc (pc + 4) = .ok (.ldc_w is, 3)) (d6 : decode cc (pc + 7) = .ok (.invokespecial 442, 3)) (d9 : decode cc (pc + 10) = .ok (.athrow, 1)) : W p l e R s m args below meth c H locs cells slots (vx_MQ below Qc (Xx E L (.inl 3, σ)) args s mc ms (La L)) (F0 m pc ls rest) := by
  obtain ⟨hU, hN⟩ := xU C hW.2
  have hat := xat C xat3
  obtain ⟨hexec, hb, hml, hown, hts, hlocks, hr, ⟨hK, hX⟩, hO⟩ := C
  have hstr := hX.2.2.2.2.2.1 si _ hsi
  have hl := hX.2.1
  intro T hT0 X
  have htr : e.platform.stackTraces = false := (show e.platform.stackTraces = l.stackTraces by rw [X.admits.platform]).trans hl
  have Y := vx_rebase X (R' := { frames := R.frames, locals := R.locals, cells := 1, slots := 6 }) (Nat.le_refl _) (Nat.le_refl _) hR2.1 hR2.2
  obtain ⟨s', hA⟩ : ∃ z, z = (T.setVm s.vm).setFrames (.invoking m args :: below) := ⟨_, rfl⟩
  rw [← hA] at Y
  have hvm : s'.vm = s.vm := by rw [hA]; rfl
  have hhp : s'.heap = H := by rw [hA]; exact hT0
  have hW0 : s.WarmedH s'.vm := by rw [hvm]; exact State.WarmedH.refl s
  have hat' : ∀ w ∈ nxW, w.before args s' = true := fun w hw => vx_ot_at hW0 hvm.symm (xgd3 w (List.mem_cons_of_mem _ (List.mem_cons_of_mem _ hw))) (hat w hw)
  have hk' : (Cond.classLink RX11 438 "java/util/NoSuchElementException").before args s' = true := vx_ot_at hW0 hvm.symm (xgd3 _ List.mem_cons_self) (hts _ xcl3)
  have hini' : (Cond.initialized "java/util/NoSuchElementException").before args s' = true := vx_ot_at hW0 hvm.symm (xgd3 _ (List.mem_cons_of_mem _ List.mem_cons_self)) (hts _ xin3)
  have hU' : vx_Zq Bundle.tN "UNASSIGNED_STACK" Bundle.steD (La L) s' s'.heap := by rw [hhp]; exact vx_Zq.moved hW0.alike (hU.kept hS.2.1)
  have hN' : vx_Zq Bundle.tN "SUPPRESSED_SENTINEL" Bundle.listD (La L) s' s'.heap := by rw [hhp]; exact vx_Zq.moved hW0.alike (hN.kept hS.2.1)
  have h : ∀ w ∈ nxAt RX11 442 "java/util/NoSuchElementException" "java/lang/RuntimeException" ["java/lang/Exception"] 13 nxB, w.before args s' = true := vx_own hat' (vx_isRefq hU'.1) (vx_isRefq hN'.1) hU'.2.word hN'.2.word
  have hown' : s'.vm.findClass RX11 = some m.cls := by rw [hvm]; exact hown
  have hins : (Cond.instantiable "java/util/NoSuchElementException" 6).before args s' = true := h _ (by simp [nxAt])
  obtain ⟨vm₁, cX, kX, hfX, hkX, -, -, X₁, st1⟩ := Y.newCold hexec (own := RX11) (C := "java/util/NoSuchElementException") (index := 438) (n := 6) hown' hk' hins hini'
    (g := F0 m pc ls rest) rfl (by rw [hb]; exact d0) (Nat.le_refl _) (Nat.le_refl _)
  generalize hT1 : (T.setVm vm₁).pushCell { cls := cX, slots := kX.instanceTypes.map defaultValue, vm := .none } = T1 at X₁ st1
  have hcat : (Value.ref T.heap.size).category = 1 := rfl
  have hcellA : T1.heap[T.heap.size]? = some (freshCell cX kX) := by rw [← hT1]; exact State.heap_pushCell_size _ _
  have d3' : decode c.code (pc + 3) = .ok (.dup, 1) := by rw [hb]; exact d3
  have d4' : decode c.code (pc + 4) = .ok (.ldc_w is, 3) := by rw [hb]; exact d4
  have hstr' : vk_R RX11 is tx (E.2.2.1 si) s' := vk_R.warm hW0 hstr
  obtain ⟨U, hsteps, hrun, hend, hWu, hsame, ce, hce, hcev, hcec⟩ := nx_ctor X₁ hexec htr (own := RX11) (cls := "java/util/NoSuchElementException") (Y0 := "java/lang/RuntimeException") (names := ["java/lang/Exception"]) (ic := 442) (ix := 13) (bytes := nxB) nx_d0 nx_d1 nx_d2 nx_d5 hown' (by decide +kernel) (by decide +kernel) (by decide +kernel) h (fun x hx => nomatch hx) hfX hkX hcellA (by rw [hhp, hT0]; exact Nat.le_refl _) (msg := .ref (E.2.2.1 si)) rfl
    (g := { method := m, pc := pc + 7, locals := ls, stack := .ref (E.2.2.1 si) :: .ref T.heap.size :: .ref T.heap.size :: rest, locked := none }) rfl (hls.trans hml.symm) rfl rfl (rest := rest) rfl
    (by rw [hb]; exact d6) (by rw [hb]; exact d9) (fun x hx => (hT x hx).elim) (by simp only [List.length_cons, List.length_nil]; omega) (by simp only [List.map_cons, List.sum_cons, hcat, List.length_cons, List.length_nil]; omega) hlocks
  obtain ⟨f1, f2⟩ := vx_frame hsame
  rw [hhp] at f1 f2
  have hWs : s.WarmedH U.vm := State.WarmedH.trans hW0 hWu
  have hcl : s.vm.findClass "java/util/NoSuchElementException" = some ce.cls := by
    rw [hvm] at hcec
    exact hcec
  have hall : s.sameButNew ({ U with vm := s.vm } : State) locs mc ms := by
    subst hA
    obtain ⟨e1, e2⟩ := hsame
    rw [State.setFrames_setFrames] at e1
    have h2 : (T.setVm s.vm).sameButNew ({ U with vm := s.vm } : State) [] (0 + 1) (0 + 6) := ⟨e1, e2⟩
    have h3 := X.same.trans h2
    rw [List.append_nil] at h3
    exact h3.mono hc hs
  have f3 : ∀ q : Nat, q < H.size → U.heap[q]? = H[q]? := fun q hq => f2 q hq (fun z hz => nomatch hz)
  refine ⟨U, ?_, .threw T.heap.size, hrun, hend, Or.inr ⟨T.heap.size, rfl, "java/util/NoSuchElementException", ce, locs, ⟨3, rfl, rfl, hW.kept f3, Nat.le_trans hS.1 f1, fun q h1 h2 => (f3 q (Nat.lt_of_lt_of_le h1 hS.1)).trans (hS.2.1 q h1 h2)⟩, hce, hcev, hcl, hWs, hall, hS.2.2⟩⟩
  refine st1 _ ?_
  show Steps p.tables e below (T1.setTop { method := m, pc := pc + 3, locals := ls, stack := .ref T.heap.size :: rest, locked := none }) _
  jvm_step X₁.here [X₁.here.top, hexec, d3', Value.category]
  exact X₁.ldcStringW hexec (own := RX11) (text := tx) (index := is) (a := E.2.2.1 si) hown' hstr'.1 hstr'.2
    (g := { method := m, pc := pc + 4, locals := ls, stack := .ref T.heap.size :: .ref T.heap.size :: rest, locked := none }) rfl d4' _ hsteps
end RowsY
