/-! THE FRAME: memory as a function, worlds by a layout, one table of words for all methods, rows over them -/
abbrev Mem : Type := Nat → Nat → Int32
/-- one number of the memory is set -/
def up (σ : Mem) (k j : Nat) (v : Int32) : Mem := fun a => if a = k then upd (σ k) j v else σ a
theorem up_at (σ : Mem) (k j : Nat) (v : Int32) : up σ k j v k = upd (σ k) j v := by simp [up]
theorem up_ne (σ : Mem) {k a : Nat} (j : Nat) (v : Int32) (h : a ≠ k) : up σ k j v a = σ a := by simp [up, h]
/-- a layout: how many cells, where the first one lies, what each holds by the memory -/
abbrev Lay : Type := Nat × Nat × (Mem → Nat → va_E)
def wl (L : Lay) (σ : Mem) : va_W := (List.range L.1).map fun k => (L.2.1 + k, L.2.2 σ k)
def La (L : Lay) : Nat → Prop := fun q => L.2.1 ≤ q ∧ q < L.2.1 + L.1
theorem wl_at {L : Lay} {σ : Mem} {k : Nat} (hk : k < L.1) : (wl L σ)[k]? = some (L.2.1 + k, L.2.2 σ k) := by
  simp [wl, List.getElem?_map, List.getElem?_range hk]
theorem wl_of {L : Lay} {σ : Mem} {k : Nat} {q : Nat × va_E} (h : (wl L σ)[k]? = some q) : k < L.1 ∧ q = (L.2.1 + k, L.2.2 σ k) := by
  have hk : k < L.1 := by
    have := (List.getElem?_eq_some_iff.mp h).1
    simpa [wl] using this
  rw [wl_at hk] at h
  exact ⟨hk, (Option.some.inj h).symm⟩
theorem wl_D (L : Lay) (σ : Mem) : va_D (La L) (wl L σ) := by
  refine ⟨fun i j p q hi hj hpq => ?_, fun k q hk => ?_⟩
  · obtain ⟨-, rfl⟩ := wl_of hi
    obtain ⟨-, rfl⟩ := wl_of hj
    exact Nat.add_left_cancel hpq
  · obtain ⟨h1, rfl⟩ := wl_of hk
    exact ⟨Nat.le_add_right _ _, Nat.add_lt_add_left h1 _⟩
theorem wl_set {L : Lay} {σ σ' : Mem} {k : Nat} (hk : k < L.1) (hl : ∀ k', k' ≠ k → L.2.2 σ' k' = L.2.2 σ k') : (wl L σ).set k (L.2.1 + k, L.2.2 σ' k) = wl L σ' := by
  apply List.ext_getElem?
  intro i
  by_cases hi : i = k
  · subst hi
    rw [List.getElem?_set_self (by simpa [wl] using hk), wl_at hk]
  · rw [List.getElem?_set_ne (Ne.symm hi)]
    by_cases h : i < L.1
    · rw [wl_at h, wl_at h, hl i hi]
    · rw [List.getElem?_eq_none (by simpa [wl] using Nat.le_of_not_lt h), List.getElem?_eq_none (by simpa [wl] using Nat.le_of_not_lt h)]
/-- the surroundings: classes and slots, the heap at the law's entry, the texts' addresses (two), the arrays' classes -/
abbrev Ev : Type := va_G × Heap × (Nat → Nat) × (Nat → Nat) × (Nat → ClassId)
def tys (E : Ev) : List (ClassId × FieldType) := [(E.2.2.2.2 0, .int), (E.2.2.2.2 1, .byte), (E.2.2.2.2 2, .boolean), (E.2.2.2.2 3, .object "PageArchive$State"), (E.2.2.2.2 4, .long)]
def Wd (E : Ev) (L : Lay) (σ : Mem) (H : Heap) : Prop := va_P E.1 vwCl (wl L σ) H ∧ E.2.1.size ≤ L.2.1
/-- the law's entry heap is as it was -/
def Od (E : Ev) (H : Heap) : Prop := E.2.1.size ≤ H.size ∧ ∀ q, q < E.2.1.size → H[q]? = E.2.1[q]?
theorem Od.go {E : Ev} {L : Lay} {H0 H : Heap} {locs : List Loc} (h : Od E H0) (hL : E.2.1.size ≤ L.2.1) (hS : va_S (La L) H0 H locs) : Od E H :=
  ⟨Nat.le_trans h.1 hS.1, fun q hq => (hS.2.1 q (Nat.lt_of_lt_of_le hq h.1) (fun z => absurd (Nat.le_trans hL z.1) (Nat.not_le.mpr hq))).trans (h.2 q hq)⟩
/-- what lies beyond the law's entry heap -/
def Ao (E : Ev) : Nat → Prop := fun q => E.2.1.size ≤ q
/-- words of the table that aren't good in the sense of the walk, but stay -/
def nword : Cond → Bool
  | .methodLinkNest .. => true
  | .castable .. => true
  | .declares .. => true
  | _ => false
theorem nword_warm {w : Cond} (hn : nword w = true) {s U : State} (hW : s.WarmedH U.vm) (h : va_Nw w s) : va_Nw w U := by
  cases w <;> first | (simp [nword] at hn; done) | exact va_Nw.warmM hW h | exact va_Nw.warmC hW h | exact va_Nw.warmD hW h
theorem nword_same {w : Cond} (hn : nword w = true) {s U : State} (hv : U.vm = s.vm) (h : va_Nw w s) : va_Nw w U := by
  cases w <;> first | (simp [nword] at hn; done) | exact va_Nw.same rfl hv.symm h
def Xt (l : Launch) (E : Ev) (U : State) : Prop :=
  ((∀ w ∈ lw_tbl, nword w = true → va_Nw w U) ∧ va_Zq "jdk/internal/util/Preconditions" "SIOOBE_FORMATTER" "Ljava/util/function/BiFunction;" (Ao E) U E.2.1) ∧ l.stackTraces = false ∧ vx_Zq Bundle.tN "UNASSIGNED_STACK" Bundle.steD (Ao E) U E.2.1 ∧ vx_Zq Bundle.tN "SUPPRESSED_SENTINEL" Bundle.listD (Ao E) U E.2.1 ∧ va_Z "java/lang/String" "COMPACT_STRINGS" "Z" (.int 1) (Ao E) U E.2.1 ∧
  (∀ (i : Nat) (q : String × Nat × String), strL[i]? = some q → vk_R q.1 q.2.1 q.2.2 (E.2.2.1 i) U) ∧
  ∀ (i : Nat) (q : List Int32), bytL[i]? = some q → va_O "java/lang/String" (E.2.2.1 i) (Ao E) U E.2.1 ∧ va_OF "java/lang/String" "coder" "B" (.int 0) (E.2.2.1 i) (Ao E) U E.2.1 ∧ va_OF "java/lang/String" "value" "[B" (.ref (E.2.2.2.1 i)) (E.2.2.1 i) (Ao E) U E.2.1 ∧ va_T .byte (E.2.2.2.1 i) q.length (fun j => .int (q.getD j 0)) (Ao E) U E.2.1
theorem Xt.warm {l : Launch} {E : Ev} {s U : State} (hW : s.WarmedH U.vm) (h : Xt l E s) : Xt l E U := by
  obtain ⟨⟨h0, h7⟩, h1, h2, h3, h4, h5, h6⟩ := h
  exact ⟨⟨fun w hw hn => nword_warm hn hW (h0 w hw hn), va_Zq.moved hW.alike h7⟩, h1, vx_Zq.moved hW.alike h2, vx_Zq.moved hW.alike h3, va_Z.moved hW.alike h4, fun i q hq => vk_R.warm hW (h5 i q hq), fun i q hq => ⟨va_O.moved hW.alike (h6 i q hq).1, va_OF.moved hW.alike (h6 i q hq).2.1, va_OF.moved hW.alike (h6 i q hq).2.2.1, va_T.moved hW.alike (h6 i q hq).2.2.2⟩⟩
theorem Xt.same {l : Launch} {E : Ev} {s U : State} (hv : U.vm = s.vm) (h : Xt l E s) : Xt l E U := by
  obtain ⟨⟨h0, h7⟩, h1, h2, h3, h4, h5, h6⟩ := h
  have ha : s.vm.Alike U.vm := by rw [hv]; exact Vm.Alike.refl _
  exact ⟨⟨fun w hw hn => nword_same hn hv (h0 w hw hn), va_Zq.moved ha h7⟩, h1, vx_Zq.moved ha h2, vx_Zq.moved ha h3, va_Z.moved ha h4, fun i q hq => vk_R.same hv (h5 i q hq), fun i q hq => ⟨va_O.moved ha (h6 i q hq).1, va_OF.moved ha (h6 i q hq).2.1, va_OF.moved ha (h6 i q hq).2.2.1, va_T.moved ha (h6 i q hq).2.2.2⟩⟩
def Kn (l : Launch) (E : Ev) (U : State) : Prop := va_K E.1 vwCl (tys E) U ∧ Xt l E U
theorem Kn.warm {l : Launch} {E : Ev} {s U : State} (hW : s.WarmedH U.vm) (h : Kn l E s) : Kn l E U := ⟨va_K.moved hW.alike h.1, h.2.warm hW⟩
theorem Kn.same {l : Launch} {E : Ev} {s U : State} (hv : U.vm = s.vm) (h : Kn l E s) : Kn l E U := ⟨va_K.moved (by rw [hv]; exact Vm.Alike.refl _) h.1, h.2.same hv⟩
/-- a method's start: the surroundings and the world -/
def Pr (l : Launch) (E : Ev) (L : Lay) (σ : Mem) (U : State) : Prop := Kn l E U ∧ Wd E L σ U.heap ∧ Od E U.heap
/-- its end: the answer and the world; nothing else has changed -/
def Qz (E : Ev) (L : Lay) (rv : Option Value) (σ : Mem) : Array Value → State → Outcome → State → Prop := fun _ st o t => o = .returned rv ∧ Wd E L σ t.heap ∧ va_F (La L) st t
theorem Pr.blind {l : Launch} {E : Ev} {L : Lay} {σ : Mem} (av : List Value) : FrameBlind (va_Pc av (Pr l E L σ)) := fun a U g mk h => ⟨h.1, Kn.same (s := U) (U := U.calling g mk a) rfl h.2.1, h.2.2⟩
/-- the walk's constant facts -/
def Cx (p : Program) (l : Launch) (s : State) (m : MethodId) (args : Array Value) (meth : Method) (c : Code) (E : Ev) (cc : ByteArray) (nL : Nat) (own : String) (rt : Option FieldType) : Prop :=
  p.tables.exec = Jvm.exec ∧ c.code = cc ∧ c.maxLocals = nL ∧ s.vm.findClass own = some m.cls ∧ (∀ w ∈ tb, w.before args s = true) ∧ meth.locks = false ∧ meth.sig.returnType = rt ∧ Kn l E s ∧ Od E s.heap
section RowsW
variable {p : Program} {l : Launch} {e : Env} {R : Room} {s : State} {m : MethodId} {args : Array Value} {below : List Frame} {meth : Method} {c : Code} {H : Heap} {locs : List Loc} {cells slots : Nat} {Q : State → Prop}
variable {E : Ev} {L : Lay} {σ : Mem} {cc : ByteArray} {nL : Nat} {own : String} {rt : Option FieldType} {pc : Nat} {ls : Array Slot} {rest : List Value}
theorem w_get (C : Cx p l s m args meth c E cc nL own rt) (hW : Wd E L σ H) {k : Nat} (hk : k < L.1) {ci : Nat} {fs : List Value} (hc : L.2.2 σ k = .inr (ci, fs)) {Cn : String} {T : u_T} {N : Nat} {ty : Nat → FieldType} (kc : KC ci Cn T N ty) (j : Nat) (hj : j < N) {index : Nat} (hl : Cond.fieldLink own index (T j).1 (T j).2.1 (T j).2.2.1 ∈ tb) {v : Value} (hv : fs[j]? = some v) (hdg : decode cc pc = .ok (.getfield index, 3))
    (kk : W p l e R s m args below meth c H locs cells slots Q (F0 m (pc + 3) ls (v :: rest))) : W p l e R s m args below meth c H locs cells slots Q (F0 m pc ls (.ref (L.2.1 + k) :: rest)) := by
  obtain ⟨hx, hb, hml, hown, hts, hlocks, hr, ⟨hK, hX⟩, hO⟩ := C
  obtain ⟨k1, k2, k3, k4⟩ := kc
  exact va_get (D := E.1) (cl := vwCl) (ws := wl L σ) hx hb hts k2 hown hK hW.1 k (by rw [wl_at hk, hc]) k1 j hj (hts _ hl) (fun _ h => h) hv hdg kk
theorem w_put (C : Cx p l s m args meth c E cc nL own rt) (hW : Wd E L σ H) (hS : va_S (La L) s.heap H locs) {k : Nat} (hk : k < L.1) {ci : Nat} {fs : List Value} (hc : L.2.2 σ k = .inr (ci, fs)) {Cn : String} {T : u_T} {N : Nat} {ty : Nat → FieldType} (kc : KC ci Cn T N ty) (j : Nat) (hj : j < N) {index : Nat} (hl : Cond.fieldLink own index (T j).1 (T j).2.1 (T j).2.2.1 ∈ tb) (hfin : (T j).2.2.2 = false) {v : Int32} (hn : narrow (ty j) (.int v) = .int v) (hfit : fits (ty j) (.int v) = true) (hlen : j < fs.length) {σ' : Mem} (hc' : L.2.2 σ' k = .inr (ci, fs.set j (.int v))) (hne : ∀ k', k' ≠ k → L.2.2 σ' k' = L.2.2 σ k') (hdg : decode cc pc = .ok (.putfield index, 3))
    (kk : ∀ (H1 : Heap) (locs1 : List Loc), Wd E L σ' H1 → va_S (La L) s.heap H1 locs1 → W p l e R s m args below meth c H1 locs1 cells slots Q (F0 m (pc + 3) ls rest)) : W p l e R s m args below meth c H locs cells slots Q (F0 m pc ls (.int v :: .ref (L.2.1 + k) :: rest)) := by
  obtain ⟨hx, hb, hml, hown, hts, hlocks, hr, ⟨hK, hX⟩, hO⟩ := C
  obtain ⟨k1, k2, k3, k4⟩ := kc
  refine va_put (D := E.1) (cl := vwCl) (ws := wl L σ) (A := La L) (H0 := s.heap) hx hb hts k2 ty k3 k4 hown hK hW.1 (wl_D L σ) hS k (by rw [wl_at hk, hc]) k1 j hj (hts _ hl) (fun _ h => h) hfin (k3 j hj) hn hfit hlen hdg (fun H1 locs1 hP1 hD1 hS1 => ?_)
  rw [← hc', wl_set hk hne] at hP1
  exact kk H1 locs1 ⟨hP1, hW.2⟩ hS1
/-- an int of an array -/
theorem w_iald (C : Cx p l s m args meth c E cc nL own rt) (hW : Wd E L σ H) {k : Nat} (hk : k < L.1) {n : Nat} {f : Nat → Int32} (hc : L.2.2 σ k = .inl (E.2.2.2.2 0, n, .inl f)) {i : Int32} (hin : vp_in i n) (hdg : decode cc pc = .ok (.iaload, 1))
    (kk : W p l e R s m args below meth c H locs cells slots Q (F0 m (pc + 1) ls (.int (f i.toNatClampNeg) :: rest))) : W p l e R s m args below meth c H locs cells slots Q (F0 m pc ls (.int i :: .ref (L.2.1 + k) :: rest)) := by
  obtain ⟨hx, hb, hml, hown, hts, hlocks, hr, ⟨hK, hX⟩, hO⟩ := C
  exact va_iald (D := E.1) (cl := vwCl) (ws := wl L σ) hx hb hK hW.1 k 0 (by rw [wl_at hk, hc]) rfl hin hdg kk
theorem w_iast (C : Cx p l s m args meth c E cc nL own rt) (hW : Wd E L σ H) (hS : va_S (La L) s.heap H locs) {k : Nat} (hk : k < L.1) {n : Nat} {f : Nat → Int32} (hc : L.2.2 σ k = .inl (E.2.2.2.2 0, n, .inl f)) {i v : Int32} (hin : vp_in i n) {σ' : Mem} (hc' : L.2.2 σ' k = .inl (E.2.2.2.2 0, n, .inl (upd f i.toNatClampNeg v))) (hne : ∀ k', k' ≠ k → L.2.2 σ' k' = L.2.2 σ k') (hdg : decode cc pc = .ok (.iastore, 1))
    (kk : ∀ (H1 : Heap) (locs1 : List Loc), Wd E L σ' H1 → va_S (La L) s.heap H1 locs1 → W p l e R s m args below meth c H1 locs1 cells slots Q (F0 m (pc + 1) ls rest)) : W p l e R s m args below meth c H locs cells slots Q (F0 m pc ls (.int v :: .int i :: .ref (L.2.1 + k) :: rest)) := by
  obtain ⟨hx, hb, hml, hown, hts, hlocks, hr, ⟨hK, hX⟩, hO⟩ := C
  refine va_iast (D := E.1) (cl := vwCl) (ws := wl L σ) (A := La L) (H0 := s.heap) hx hb hK hW.1 (wl_D L σ) hS k 0 (by rw [wl_at hk, hc]) rfl hin hdg (fun H1 locs1 hP1 hD1 hS1 => ?_)
  rw [← hc', wl_set hk hne] at hP1
  exact kk H1 locs1 ⟨hP1, hW.2⟩ hS1
theorem w_alen (C : Cx p l s m args meth c E cc nL own rt) (hW : Wd E L σ H) {k : Nat} (hk : k < L.1) {n : Nat} {f : Nat → Int32} (hc : L.2.2 σ k = .inl (E.2.2.2.2 0, n, .inl f)) (hdg : decode cc pc = .ok (.arraylength, 1))
    (kk : W p l e R s m args below meth c H locs cells slots Q (F0 m (pc + 1) ls (.int (Int32.ofNat n) :: rest))) : W p l e R s m args below meth c H locs cells slots Q (F0 m pc ls (.ref (L.2.1 + k) :: rest)) := by
  obtain ⟨hx, hb, hml, hown, hts, hlocks, hr, ⟨hK, hX⟩, hO⟩ := C
  exact va_alen (D := E.1) (cl := vwCl) (ws := wl L σ) hx hb hK hW.1 k 0 (by rw [wl_at hk, hc]) rfl rfl hdg kk
/-- a call of a method of an object, with a contract -/
theorem w_callV (C : Cx p l s m args meth c E cc nL own rt) (hW : Wd E L σ H) (hS : va_S (La L) s.heap H locs) {k : Nat} (hk : k < L.1) {ci : Nat} {fs : List Value} (hc : L.2.2 σ k = .inr (ci, fs)) {Cn : String} {T : u_T} {N : Nat} {ty : Nat → FieldType} (kc : KC ci Cn T N ty)
    {y : MethodName} {cb : ByteArray} {ml n : Nat} {ry : Option FieldType} {fr lo : Nat} {As : List Value} {rv : Option Value} {σ' : Mem} (hM : Met l y (tw y cb ml ry) { frames := fr, cells := 0, slots := 0, locals := lo } (va_Pc (.ref (L.2.1 + k) :: As) (Pr l E L σ)) (Qz E L rv σ') 0 0 (La L)) (cw : CW y cb ml ry n) (cv : CV y) (hCn : y.cls = Cn) {index : Nat} (hlk : Cond.methodLink own index y ∈ tb) (hR : fr + 1 ≤ R.frames ∧ 8 + (ml + 11) + lo ≤ R.locals)
    (hn : As.length = n) (hls : ls.size = nL) (hsum : (rest.map fun v => v.category).sum ≤ 8) (hf : cells ≤ R.cells ∧ slots ≤ R.slots) (hdg : decode cc pc = .ok (.invokevirtual index, 3)) {st : List Value} (hst : st = As.reverse ++ .ref (L.2.1 + k) :: rest)
    (kk : ∀ (H1 : Heap) (locs1 : List Loc), Wd E L σ' H1 → va_S (La L) s.heap H1 locs1 → W p l e R s m args below meth c H1 locs1 cells slots Q (F0 m (pc + 3) ls (rv.toList ++ rest))) : W p l e R s m args below meth c H locs cells slots Q (F0 m pc ls st) := by
  obtain ⟨hx, hb, hml, hown, hts, hlocks, hr, ⟨hK, hX⟩, hO⟩ := C
  obtain ⟨w1, w2, w3, w4⟩ := cw
  obtain ⟨k1, k2, k3, k4⟩ := kc
  subst hCn
  have hO2 : Od E H := hO.go hW.2 hS
  have cb0 : CallB R s args own index y cb ml ry (tw y cb ml ry) { frames := fr, cells := 0, slots := 0, locals := lo } 0 0 n := callB_of n hts (tw_good w1) rfl rfl rfl (hts _ w2) (hts _ hlk) ⟨w3.1, w3.2, w4⟩ hR
  have hrun := va_runV (p := p) (e := e) (below := below) (meth := meth) (H := H) (locs := locs) (cells := cells) (slots := slots) (g := F0 m pc ls st) (rest := rest) ⟨hx, hb, hml, hown, hts⟩ hM ⟨cb0, hts _ cv.1, hts _ cv.2⟩ ⟨Pr.blind _, va_recv hK hW.1 (ci := ci) (q0 := k) k1 (by rw [wl_at hk, hc]), fun U hU hWm => ⟨rfl, Kn.warm hWm ⟨hK, hX⟩, by rw [hU]; exact hW, by rw [hU]; exact hO2⟩⟩ rfl hn hls hst (lv_room hsum) hdg hf
  intro Tt hT X
  obtain ⟨v, st₀, t, T', L', h0, X', hL, e1, e2, ⟨hv, hw, hz, hk2⟩, stp⟩ := hrun Tt hT X
  cases hv
  rw [h0] at hz hk2
  obtain ⟨t2, a1, b1⟩ := kk T'.heap (locs ++ L') (by rw [e1]; exact hw) ⟨Nat.le_trans hS.1 (by rw [e1]; exact hz), fun q h1 h2 => by rw [e1, hk2 q (Nat.lt_of_lt_of_le h1 hS.1) h2]; exact hS.2.1 q h1 h2, fun q hq => by
      rcases List.mem_append.mp hq with h | h
      · exact hS.2.2 q h
      · exact hL q h⟩ T' rfl X'
  exact ⟨t2, stp t2 a1, b1⟩
/-- a call of a static method of the own class -/
theorem w_callS (C : Cx p l s m args meth c E cc nL own rt) (hW : Wd E L σ H) (hS : va_S (La L) s.heap H locs)
    {y : MethodName} {cb : ByteArray} {ml n : Nat} {ry : Option FieldType} {fr lo : Nat} {As : List Value} {rv : Option Value} {σ' : Mem} (hM : Met l y (tw y cb ml ry) { frames := fr, cells := 0, slots := 0, locals := lo } (va_Pc As (Pr l E L σ)) (Qz E L rv σ') 0 0 (La L)) (cw : CW y cb ml ry n) (cs : Cond.static y ∈ tb) {index : Nat} (hlk : Cond.methodLink own index y ∈ tb) (hR : fr + 1 ≤ R.frames ∧ 8 + (ml + 11) + lo ≤ R.locals)
    (hn : As.length = n) (hls : ls.size = nL) (hsum : (rest.map fun v => v.category).sum ≤ 8) (hf : cells ≤ R.cells ∧ slots ≤ R.slots) (hdg : decode cc pc = .ok (.invokestatic index, 3)) {st : List Value} (hst : st = As.reverse ++ rest)
    (kk : ∀ (H1 : Heap) (locs1 : List Loc), Wd E L σ' H1 → va_S (La L) s.heap H1 locs1 → W p l e R s m args below meth c H1 locs1 cells slots Q (F0 m (pc + 3) ls (rv.toList ++ rest))) : W p l e R s m args below meth c H locs cells slots Q (F0 m pc ls st) := by
  obtain ⟨hx, hb, hml, hown, hts, hlocks, hr, ⟨hK, hX⟩, hO⟩ := C
  obtain ⟨w1, w2, w3, w4⟩ := cw
  have hO2 : Od E H := hO.go hW.2 hS
  have cb0 : CallB R s args own index y cb ml ry (tw y cb ml ry) { frames := fr, cells := 0, slots := 0, locals := lo } 0 0 n := callB_of n hts (tw_good w1) rfl rfl rfl (hts _ w2) (hts _ hlk) ⟨w3.1, w3.2, w4⟩ hR
  have hrun := va_runS (p := p) (e := e) (below := below) (meth := meth) (H := H) (locs := locs) (cells := cells) (slots := slots) (g := F0 m pc ls st) (rest := rest) ⟨hx, hb, hml, hown, hts⟩ hM ⟨cb0, hts _ cs⟩ ⟨Pr.blind _, fun U hU hWm => ⟨rfl, Kn.warm hWm ⟨hK, hX⟩, by rw [hU]; exact hW, by rw [hU]; exact hO2⟩⟩ rfl hn hls hst (lv_room hsum) hdg hf
  intro Tt hT X
  obtain ⟨v, st₀, t, T', L', h0, X', hL, e1, e2, ⟨hv, hw, hz, hk2⟩, stp⟩ := hrun Tt hT X
  cases hv
  rw [h0] at hz hk2
  obtain ⟨t2, a1, b1⟩ := kk T'.heap (locs ++ L') (by rw [e1]; exact hw) ⟨Nat.le_trans hS.1 (by rw [e1]; exact hz), fun q h1 h2 => by rw [e1, hk2 q (Nat.lt_of_lt_of_le h1 hS.1) h2]; exact hS.2.1 q h1 h2, fun q hq => by
      rcases List.mem_append.mp hq with h | h
      · exact hS.2.2 q h
      · exact hL q h⟩ T' rfl X'
  exact ⟨t2, stp t2 a1, b1⟩
/-- the ends -/
theorem w_iret (C : Cx p l s m args meth c E cc nL own (some .int)) (hW : Wd E L σ H) (hS : va_S (La L) s.heap H locs) {v : Int32} (hdg : decode cc pc = .ok (.ireturn, 1)) : W p l e R s m args below meth c H locs cells slots (MQ below (Qz E L (some (.int v)) σ) args s cells slots (La L)) (F0 m pc ls [.int v]) := by
  obtain ⟨hx, hb, hml, hown, hts, hlocks, hr, ⟨hK, hX⟩, hO⟩ := C
  exact W.iret hx hb hr (fun t ht hW2 => ⟨rfl, by rw [ht]; exact hW, hS.F ht⟩) hS.2.2 hdg
theorem w_zret (C : Cx p l s m args meth c E cc nL own (some .boolean)) (hW : Wd E L σ H) (hS : va_S (La L) s.heap H locs) {v : Int32} (hv : v = 0 ∨ v = 1) (hdg : decode cc pc = .ok (.ireturn, 1)) : W p l e R s m args below meth c H locs cells slots (MQ below (Qz E L (some (.int v)) σ) args s cells slots (La L)) (F0 m pc ls [.int v]) := by
  obtain ⟨hx, hb, hml, hown, hts, hlocks, hr, ⟨hK, hX⟩, hO⟩ := C
  exact W.zret hx hb hr (by rcases hv with rfl | rfl <;> decide +kernel) (fun t ht hW2 => ⟨rfl, by rw [ht]; exact hW, hS.F ht⟩) hS.2.2 hdg
theorem w_vret (C : Cx p l s m args meth c E cc nL own none) (hW : Wd E L σ H) (hS : va_S (La L) s.heap H locs) (hdg : decode cc pc = .ok (.return_, 1)) : W p l e R s m args below meth c H locs cells slots (MQ below (Qz E L none σ) args s cells slots (La L)) (F0 m pc ls []) := by
  obtain ⟨hx, hb, hml, hown, hts, hlocks, hr, ⟨hK, hX⟩, hO⟩ := C
  exact W.vret hx hb hr (fun t ht hW2 => ⟨rfl, by rw [ht]; exact hW, hS.F ht⟩) hS.2.2 hdg
end RowsW
theorem bnd {α β : Type} {o : Option α} {f : α → Option β} {r : β} (h : o.bind f = some r) : ∃ v, o = some v ∧ f v = some r := Option.bind_eq_some_iff.mp h
/-- a contract out of the walk of its body -/
theorem ct_of {l : Launch} {y : MethodName} {cc : ByteArray} {n : Nat} {r : Option FieldType} {rm : Room} {av : List Value} {E : Ev} {L : Lay} {σ : Mem} {Qc : Array Value → State → Outcome → State → Prop} {mc ms : Nat} (hy : plainName y.cls = true) (hlen : (lg_sl av).length ≤ n)
    (body : ∀ p e s m below meth c, Cx p l s m av.toArray meth c E cc n y.cls r → Wd E L σ s.heap → va_S (La L) s.heap s.heap [] → ∀ ls, lv_has ls n (lv_args 0 av) → W p l e rm s m av.toArray below meth c s.heap [] 0 0 (MQ below Qc av.toArray s mc ms (La L)) (F0 m 0 ls [])) : Met l y (tw y cc n r) rm (va_Pc av (Pr l E L σ)) Qc mc ms (La L) := by
  refine Met.ofW (cc := cc) (maxL := n) (ret := r) hy rfl ?_
  intro p e s m args below meth c s₁ B hml hv
  obtain ⟨rfl, hK, hW, hO⟩ := hv
  have hts := atoms_spec (ws := tw y cc n r) B.pre
  have hown : s.vm.findClass y.cls = some m.cls := findClass_of_methodNamed B.named
  have hl := lv_entry av (n := n) hlen
  rw [lg_entry_eq]
  exact body p e s m below meth c ⟨B.exec, B.bytes, hml, hown, fun w hw => hts w (List.mem_cons_of_mem _ hw), B.notSynchronized, B.returns, hK, hO⟩ hW va_S.rf _ hl
