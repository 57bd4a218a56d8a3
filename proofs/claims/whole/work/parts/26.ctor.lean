/-! CONSTRUCTORS: an object's cells come one behind another -/
def Z0 : Mem := fun k j => if k = 1 ∧ j = 5 then -1 else 0
theorem z0 {k n j : Nat} (h : kd k = n) (hn : n ≠ 6) : Z0 k j = 0 := by
  unfold Z0
  rw [if_neg]
  rintro ⟨rfl, -⟩
  exact hn (by rw [← h]; decide +kernel)
theorem z06 {k j : Nat} (h : j ≠ 5) : Z0 k j = 0 := by
  unfold Z0
  rw [if_neg]
  rintro ⟨-, rfl⟩
  exact h rfl
theorem kd6 {k : Nat} (h : kd k = 6) : k = 1 := of_decide_eq_true (kdall (n := 6) (by decide) (fun k => decide (k = 1)) (by decide +kernel) k h)
def Sg (E : Ev) (b k n : Nat) (H : Heap) : Prop := ∀ j, j < n → va_at E.1 vwCl (b + (k + j), cellC E b Z0 (k + j)) H
theorem Sg.kept {E : Ev} {b k n : Nat} {H H1 : Heap} (h : Sg E b k n H) (hq : ∀ q, b + k ≤ q → q < b + (k + n) → H1[q]? = H[q]?) : Sg E b k n H1 := fun j hj => (h j hj).kept (hq _ (by omega) (by omega))
theorem Sg.app {E : Ev} {b k n n' : Nat} {H : Heap} (h : Sg E b k n H) (h' : Sg E b (k + n) n' H) : Sg E b k (n + n') H := by
  intro j hj
  by_cases hl : j < n
  · exact h j hl
  · have h2 := h' (j - n) (by omega)
    have e1 : k + n + (j - n) = k + j := by omega
    rw [e1] at h2
    exact h2
/-- an object under its constructor, i cells so far -/
def Sk (E : Ev) (b k ci : Nat) (fs : List Value) (i : Nat) (s : State) (H : Heap) (locs : List Loc) : Prop := H.size = b + (k + (1 + i)) ∧ va_at E.1 vwCl (b + k, .inr (ci, fs)) H ∧ Sg E b (k + 1) i H ∧ (∀ q, q < b + k → H[q]? = s.heap[q]?) ∧ (∀ z ∈ locs, b + k ≤ z.base) ∧ Od E H ∧ E.2.1.size ≤ b + k ∧ va_AO "PageArchive$State" s
/-- .. and a new one that waits for its own -/
def Sp (E : Ev) (b k ci : Nat) (fs : List Value) (i cp : Nat) (fp : List Value) (s : State) (H : Heap) (locs : List Loc) : Prop := H.size = b + (k + (1 + i)) + 1 ∧ va_at E.1 vwCl (b + (k + (1 + i)), .inr (cp, fp)) H ∧ va_at E.1 vwCl (b + k, .inr (ci, fs)) H ∧ Sg E b (k + 1) i H ∧ (∀ q, q < b + k → H[q]? = s.heap[q]?) ∧ (∀ z ∈ locs, b + k ≤ z.base) ∧ Od E H ∧ E.2.1.size ≤ b + k ∧ va_AO "PageArchive$State" s
def Pk (l : Launch) (E : Ev) (b k ci : Nat) (fs : List Value) (U : State) : Prop := Kn l E U ∧ Od E U.heap ∧ E.2.1.size ≤ b + k ∧ U.heap.size = b + k + 1 ∧ va_at E.1 vwCl (b + k, .inr (ci, fs)) U.heap ∧ va_AO "PageArchive$State" U
def Qk (E : Ev) (b k n : Nat) : Array Value → State → Outcome → State → Prop := fun _ st o t => o = .returned none ∧ t.heap.size = b + (k + n) ∧ Sg E b k n t.heap ∧ ∀ q, q < b + k → t.heap[q]? = st.heap[q]?
theorem Pk.blind {l : Launch} {E : Ev} {b k ci : Nat} {fs : List Value} (av : List Value) : FrameBlind (va_Pc av (Pk l E b k ci fs)) := fun x U g mk h => ⟨h.1, Kn.same (s := U) (U := U.calling g mk x) rfl h.2.1, h.2.2.1, h.2.2.2.1, h.2.2.2.2.1, h.2.2.2.2.2.1, va_AO.moved (u := U) (U := U.calling g mk x) (Vm.Alike.refl U.vm) h.2.2.2.2.2.2⟩
theorem joi : (⟨"java/lang/Object", "<init>", "()V"⟩ : MethodName) = Lib.objectInit := rfl
theorem oi_im : Cond.instanceMethod Lib.objectInit ∈ tb := tb_i 152 (by decide +kernel) (by decide +kernel)
theorem oi_co : Cond.code Lib.objectInit ⟨#[0xb1]⟩ 1 none ∈ tb := tb_i 153 (by decide +kernel) (by decide +kernel)
theorem ck_of {l : Launch} {y : MethodName} {cc : ByteArray} {n : Nat} {rm : Room} {av : List Value} {E : Ev} {b k ci : Nat} {fs : List Value} {Qc : Array Value → State → Outcome → State → Prop} {mc ms : Nat} {A : Nat → Prop} (hy : plainName y.cls = true) (hn : y.name = "<init>") (hlen : (lg_sl av).length ≤ n)
    (body : ∀ p e s m below meth c, Cx p l s m av.toArray meth c E cc n y.cls none → meth.name = "<init>" → Sk E b k ci fs 0 s s.heap [] → ∀ ls, lv_has ls n (lv_args 0 av) → W p l e rm s m av.toArray below meth c s.heap [] 0 0 (MQ below Qc av.toArray s mc ms A) (F0 m 0 ls [])) : Met l y (tw y cc n none) rm (va_Pc av (Pk l E b k ci fs)) Qc mc ms A := by
  refine Met.ofW (cc := cc) (maxL := n) (ret := none) hy rfl ?_
  intro p e s m args below meth c s₁ B hml hv
  obtain ⟨rfl, hK, hO, hE, hz, hat, hao⟩ := hv
  have hts := atoms_spec (ws := tw y cc n none) B.pre
  have hown : s.vm.findClass y.cls = some m.cls := findClass_of_methodNamed B.named
  have hl := lv_entry av (n := n) hlen
  rw [lg_entry_eq]
  exact body p e s m below meth c ⟨B.exec, B.bytes, hml, hown, fun w hw => hts w (List.mem_cons_of_mem _ hw), B.notSynchronized, B.returns, hK, hO⟩ (hn ▸ (name_of_methodNamed B.named B.method).1) ⟨hz, hat, fun j hj => absurd hj (Nat.not_lt_zero j), fun _ _ => rfl, (fun z hz => by cases hz), hO, hE, hao⟩ _ hl
section RowsK
variable {p : Program} {l : Launch} {e : Env} {R : Room} {s : State} {m : MethodId} {args : Array Value} {below : List Frame} {meth : Method} {c : Code} {H : Heap} {locs : List Loc} {cells slots mc ms : Nat} {Q : State → Prop}
variable {E : Ev} {b k ci i : Nat} {fs : List Value} {cc : ByteArray} {nL : Nat} {own : String} {rt : Option FieldType} {pc index : Nat} {ls : Array Slot} {rest : List Value}
theorem k_obj (C : Cx p l s m args meth c E cc nL own rt) {a : Nat} (hlk : Cond.methodLink own index ⟨"java/lang/Object", "<init>", "()V"⟩ ∈ tb) (hls : ls.size = nL) (hR : 1 ≤ R.frames ∧ (rest.map fun v => v.category).sum + 12 ≤ R.locals) (hdg : decode cc pc = .ok (.invokespecial index, 3)) (kk : W p l e R s m args below meth c H locs cells slots Q (F0 m (pc + 3) ls rest)) : W p l e R s m args below meth c H locs cells slots Q (F0 m pc ls (.ref a :: rest)) := by
  obtain ⟨hx, hb, hml, hown, hts, hlocks, hr, ⟨hK, hX⟩, hO⟩ := C
  exact W.objInit hx hb hown (hts _ (joi ▸ hlk)) (hts _ oi_im) (hts _ oi_co) rfl (by rw [hml]; exact hls) rfl hdg hR.1 (by have h2 := hR.2; have e0 : (F0 m pc ls (.ref a :: rest)).monitorRoom = 0 := rfl; rw [e0]; omega) kk
theorem k_new (C : Cx p l s m args meth c E cc nL own rt) (hk : Sk E b k ci fs i s H locs) {cp N : Nat} {Cn : String} {T : u_T} {ty : Nat → FieldType} (kc : KC cp Cn T N ty) (hcl : Cond.classLink own index Cn ∈ tb) (hin : Cond.instantiable Cn N ∈ tb) (hini : Cond.initialized Cn ∈ tb) {fp : List Value} (hfp : ∀ j, j < N → defaultValue (ty j) = vp_V fp j) (hc : cells + 1 ≤ R.cells ∧ slots + N ≤ R.slots) (hdg : decode cc pc = .ok (.new index, 3))
    (kk : ∀ H1 : Heap, Sp E b k ci fs i cp fp s H1 locs → W p l e R s m args below meth c H1 locs (cells + 1) (slots + N) Q (F0 m (pc + 3) ls (.ref (b + (k + (1 + i))) :: rest))) : W p l e R s m args below meth c H locs cells slots Q (F0 m pc ls rest) := by
  obtain ⟨hx, hb, hml, hown, hts, hlocks, hr, ⟨hK, hX⟩, hO⟩ := C
  obtain ⟨k1, k2, k3, k4⟩ := kc
  obtain ⟨z1, z2, z3, z4, z5, z6, z7, z8⟩ := hk
  have hKn := hK.1 cp _ k1
  refine W.newcK hx hb hown (hts _ hcl) (hts _ hin) (hts _ hini) rfl hdg hc.1 hc.2 hKn.2.1 z1 fun H1 kC hkC e1 y1 o1 => ?_
  refine kk H1 ⟨y1, ⟨_, k1, (u_born ty hts k2 hKn hkC e1 k3).to hfp⟩, z2.kept (o1 _ (by omega)), z3.kept (fun q _ h2 => o1 q (by omega)), fun q hq => (o1 q (by omega)).trans (z4 q hq), z5, ⟨Nat.le_trans z6.1 (by omega), fun q hq => (o1 q (by have := z6.1; omega)).trans (z6.2 q hq)⟩, z7, z8⟩
theorem k_newa (C : Cx p l s m args meth c E cc nL own rt) (hk : Sk E b k ci fs i s H locs) {N : Nat} (hkd : kd (k + (1 + i)) = 100 + N) {n : Int32} (hn : ¬ n < 0) (hN : n.toNatClampNeg = N) (hsm : N ≤ 10000) (hc : cells + 1 ≤ R.cells ∧ slots + N ≤ R.slots) (hdg : decode cc pc = .ok (.newarray .int, 2))
    (kk : ∀ H1 : Heap, Sk E b k ci fs (i + 1) s H1 locs → W p l e R s m args below meth c H1 locs (cells + 1) (slots + N) Q (F0 m (pc + 2) ls (.ref (b + (k + (1 + i))) :: rest))) : W p l e R s m args below meth c H locs cells slots Q (F0 m pc ls (.int n :: rest)) := by
  obtain ⟨hx, hb, hml, hown, hts, hlocks, hr, ⟨hK, hX⟩, hO⟩ := C
  obtain ⟨z1, z2, z3, z4, z5, z6, z7, z8⟩ := hk
  refine va_newaK (atype := .int) hx hb (hts _ ac_int) rfl hdg rfl hn hN (by show N * 4 ≤ 536870912; omega) hc.1 hc.2 z1 fun H1 cA e1 y1 o1 hAr hNm => ?_
  have hcA : cA = E.2.2.2.2 0 := by
    have h1 : va_RA s (E.2.2.2.2 0) .int := (hK.2 0 _ rfl).2
    have h2 : s.vm.findClass ("[" ++ FieldType.int.toString) = some (E.2.2.2.2 0) := h1
    exact Option.some.inj (hNm.symm.trans h2)
  subst hcA
  have hcell : va_at E.1 vwCl (b + (k + (1 + i)), cellC E b Z0 (k + (1 + i))) H1 := by
    have h3 : cellC E b Z0 (k + (1 + i)) = .inl (E.2.2.2.2 0, ln (k + (1 + i)), .inl (Z0 (k + (1 + i)))) := ccA (E := E) (b := b) (σ := Z0) (k := k + (1 + i)) (by rw [hkd]; omega)
    rw [h3]
    show H1[b + (k + (1 + i))]? = some (vp_cell (E.2.2.2.2 0) (ln (k + (1 + i)), .inl (Z0 (k + (1 + i)))))
    rw [e1, vp_cell_i]
    have h4 : ln (k + (1 + i)) = N := by unfold ln; rw [hkd]; omega
    rw [h4]
    congr 2
    funext j
    show Value.int 0 = .int (Z0 (k + (1 + i)) j)
    rw [z0 hkd (by omega)]
  refine kk H1 ⟨by rw [y1]; rfl, z2.kept (o1 _ (by omega)), ?_, fun q hq => (o1 q (by omega)).trans (z4 q hq), z5, ⟨Nat.le_trans z6.1 (by omega), fun q hq => (o1 q (by have := z6.1; omega)).trans (z6.2 q hq)⟩, z7, z8⟩
  refine (z3.kept (fun q _ h2 => o1 q (by omega))).app (fun j hj => ?_)
  have hj0 : j = 0 := by omega
  subst hj0
  have e2 : k + 1 + i + 0 = k + (1 + i) := by omega
  rw [e2]
  exact hcell
theorem k_ctor (C : Cx p l s m args meth c E cc nL own rt) {cp : Nat} {fp : List Value} (hk : Sp E b k ci fs i cp fp s H locs) {n' : Nat}
    {y : MethodName} {cb : ByteArray} {ml n : Nat} {fr lo : Nat} {As : List Value} (hM : Met l y (tw y cb ml none) { frames := fr, cells := mc, slots := ms, locals := lo } (va_Pc (.ref (b + (k + (1 + i))) :: As) (Pk l E b (k + (1 + i)) cp fp)) (Qk E b (k + (1 + i)) n') mc ms (fun q => b + (k + (1 + i)) ≤ q)) (cw : CW y cb ml none n) (him : Cond.instanceMethod y ∈ tb) (hy : y.name = "<init>") (hlk : Cond.methodLink own index y ∈ tb) (hR : fr + 1 ≤ R.frames ∧ 8 + (ml + 11) + lo ≤ R.locals)
    (hn : As.length = n) (hls : ls.size = nL) (hsum : (rest.map fun v => v.category).sum ≤ 8) (hf : cells + mc ≤ R.cells ∧ slots + ms ≤ R.slots) (hdg : decode cc pc = .ok (.invokespecial index, 3)) {st : List Value} (hst : st = As.reverse ++ .ref (b + (k + (1 + i))) :: rest)
    (kk : ∀ (H1 : Heap) (locs1 : List Loc), Sk E b k ci fs (i + n') s H1 locs1 → W p l e R s m args below meth c H1 locs1 (cells + mc) (slots + ms) Q (F0 m (pc + 3) ls rest)) : W p l e R s m args below meth c H locs cells slots Q (F0 m pc ls st) := by
  obtain ⟨hx, hb, hml, hown, hts, hlocks, hr, ⟨hK, hX⟩, hO⟩ := C
  obtain ⟨w1, w2, w3, w4⟩ := cw
  obtain ⟨z1, zp, z2, z3, z4, z5, z6, z7, z8⟩ := hk
  have hrun := va_runI (p := p) (e := e) (below := below) (meth := meth) (H := H) (locs := locs) (cells := cells) (slots := slots) (g := F0 m pc ls st) (rest := rest) ⟨hx, hb, hml, hown, hts⟩ hM (cwI n hts (tw_good w1) rfl rfl rfl (hts _ w2) (hts _ hlk) (hts _ him) hy ⟨w3.1, w3.2, w4⟩ hR) ⟨Pk.blind _, fun U hU hWm => ⟨rfl, Kn.warm hWm ⟨hK, hX⟩, by rw [hU]; exact z6, by omega, by rw [hU]; exact z1, by rw [hU]; exact zp, va_AO.moved hWm.alike z8⟩⟩ rfl hn hls hst (lv_room hsum) hdg hf
  intro Tt hT X
  obtain ⟨v, st₀, t, T', L', h0, X', hL, e1, e2, ⟨hv, hz, hg, hk2⟩, stp⟩ := hrun Tt hT X
  cases hv
  rw [h0] at hk2
  have hfr : ∀ q, q < b + (k + (1 + i)) → T'.heap[q]? = H[q]? := fun q hq => by rw [e1]; exact hk2 q hq
  have g1 : T'.heap.size = b + (k + (1 + (i + n'))) := by rw [e1, hz]; omega
  have g2 : Sg E b (k + 1 + i) n' T'.heap := by
    have e3 : k + 1 + i = k + (1 + i) := by omega
    rw [e3, e1]
    exact hg
  have g3 : ∀ z ∈ locs ++ L', b + k ≤ z.base := fun z hz => by
    rcases List.mem_append.mp hz with h | h
    · exact z5 z h
    · have h9 : b + (k + (1 + i)) ≤ z.base := hL z h
      omega
  have g4 : Od E T'.heap := ⟨by have := z6.1; omega, fun q hq => (hfr q (by have := z7; omega)).trans (z6.2 q hq)⟩
  obtain ⟨t2, a1, b1⟩ := kk T'.heap (locs ++ L') ⟨g1, z2.kept (hfr _ (by show b + k < _; omega)), (z3.kept (fun q _ h2 => hfr q (by omega))).app g2, fun q hq => (hfr q (by omega)).trans (z4 q hq), g3, g4, z7, z8⟩ T' rfl X'
  exact ⟨t2, stp t2 a1, b1⟩
theorem k_fin {a : Nat} {fs' : List Value} {H1 : Heap} {sl : Nat} (ha : a = b + k) (hk : Sk E b k ci fs i s H locs) (h1 : va_at E.1 vwCl (b + k, .inr (ci, fs')) H1) (hz : H1.size = H.size) (ho : ∀ q, q ≠ a → H1[q]? = H[q]?) : Sk E b k ci fs' i s H1 (locs ++ [⟨a, sl⟩]) := by
  obtain ⟨z1, z2, z3, z4, z5, z6, z7, z8⟩ := hk
  subst ha
  refine ⟨hz.trans z1, h1, z3.kept (fun q h1 h2 => ho q (by omega)), fun q hq => (ho q (by omega)).trans (z4 q hq), fun z hz => ?_, ⟨by rw [hz]; exact z6.1, fun q hq => (ho q (by have := z7; omega)).trans (z6.2 q hq)⟩, z7, z8⟩
  rcases List.mem_append.mp hz with h | h
  · exact z5 z h
  · simp only [List.mem_cons, List.not_mem_nil, or_false] at h
    rw [h]
    exact Nat.le_refl _
theorem k_putF (C : Cx p l s m args meth c E cc nL own rt) (hin2 : meth.name = "<init>") (hk : Sk E b k ci fs i s H locs) {N : Nat} {T : u_T} {ty : Nat → FieldType} (kc : KC ci own T N ty) (j : Nat) (hj : j < N) (hl : Cond.fieldLink own index (T j).1 (T j).2.1 (T j).2.2.1 ∈ tb) (hfin : (T j).2.2.2 = true) (hdecl : (T j).1 = own) {v : Value} (hn : narrow (ty j) v = v) (hfit : fits (ty j) v = true) (hlen : j < fs.length) {fs' : List Value} (hfs : fs.set j v = fs') (hdg : decode cc pc = .ok (.putfield index, 3))
    (kk : ∀ (H1 : Heap) (locs1 : List Loc), Sk E b k ci fs' i s H1 locs1 → W p l e R s m args below meth c H1 locs1 cells slots Q (F0 m (pc + 3) ls rest)) : W p l e R s m args below meth c H locs cells slots Q (F0 m pc ls (v :: .ref (b + k) :: rest)) := by
  subst hfs
  obtain ⟨hx, hb, hml, hown, hts, hlocks, hr0, ⟨hK, hX⟩, hO⟩ := C
  obtain ⟨k1, k2, k3, k4⟩ := kc
  have hap := va_apart (own := own) hts k2 ty k3 k4 hK k1
  obtain ⟨r, h1, cell, q1, q2, q3, q4⟩ := hk.2.1
  have hr : r = (own, T, N) := Option.some.inj (h1.symm.trans k1)
  subst hr
  obtain ⟨hSl, hfc, kC, hkC, hkind⟩ := hK.1 ci _ k1
  obtain ⟨cf, kf, fi, f, hi, hsl⟩ := hSl j hj
  have hlay := hts _ (k2 _ (u_in_lay hj))
  unfold u_lay at hlay
  rw [if_pos hfin] at hlay
  have hst := (u_facts hfc hkC (u_lays hts k2 hj) hi).1
  have hcf : m.cls = cf := by
    obtain ⟨_, _, c', _, _, _, -, -, hf', -, -, -, hown2, -⟩ := Cond.laysFinal_spec hlay
    have e1 : c' = cf := by have := hi.symm.trans hf'; simp at this; exact this.1.symm
    rw [hdecl] at hown2
    rw [← e1]; exact Option.some.inj (hown.symm.trans hown2)
  have h6 := u_fits hfc hkC hkind (Or.inr hlay) hi (k3 j hj) hn hfit
  refine W.putFinK hx hb hown (hts _ hl) hi hst hcf hin2 (by rw [q2]; exact h6) q1 q3 (by rw [hsl]; exact k2_hasslot (q4 j hj)) rfl rfl hdg fun H' e1 e2 e3 => ?_
  rw [hsl] at e1 ⊢
  exact kk H' _ (k_fin rfl hk ⟨_, k1, t_OB.to (V := updV (vp_V fs) j v) ⟨_, e1, q2, q3, t_set q4 hap hj v⟩ (fun j2 _ => vp_updV_set hlen v j2)⟩ e2 e3)
theorem k_put (C : Cx p l s m args meth c E cc nL own rt) (hk : Sk E b k ci fs i s H locs) {N : Nat} {T : u_T} {ty : Nat → FieldType} (kc : KC ci own T N ty) (j : Nat) (hj : j < N) (hl : Cond.fieldLink own index (T j).1 (T j).2.1 (T j).2.2.1 ∈ tb) (hfin : (T j).2.2.2 = false) {v : Value} (hn : narrow (ty j) v = v) (hfit : fits (ty j) v = true) (hlen : j < fs.length) {fs' : List Value} (hfs : fs.set j v = fs') (hdg : decode cc pc = .ok (.putfield index, 3))
    (kk : ∀ (H1 : Heap) (locs1 : List Loc), Sk E b k ci fs' i s H1 locs1 → W p l e R s m args below meth c H1 locs1 cells slots Q (F0 m (pc + 3) ls rest)) : W p l e R s m args below meth c H locs cells slots Q (F0 m pc ls (v :: .ref (b + k) :: rest)) := by
  subst hfs
  obtain ⟨hx, hb, hml, hown, hts, hlocks, hr0, ⟨hK, hX⟩, hO⟩ := C
  obtain ⟨k1, k2, k3, k4⟩ := kc
  have hap := va_apart (own := own) hts k2 ty k3 k4 hK k1
  obtain ⟨r, h1, cell, q1, q2, q3, q4⟩ := hk.2.1
  have hr : r = (own, T, N) := Option.some.inj (h1.symm.trans k1)
  subst hr
  obtain ⟨hSl, hfc, kC, hkC, hkind⟩ := hK.1 ci _ k1
  obtain ⟨cf, kf, fi, f, hi, hsl⟩ := hSl j hj
  have hlay := hts _ (k2 _ (u_in_lay hj))
  unfold u_lay at hlay
  rw [if_neg (by rw [hfin]; decide)] at hlay
  have hst := (u_facts hfc hkC (u_lays hts k2 hj) hi).1
  have h6 := u_store hfc hkC hkind hlay hi (k3 j hj) hn hfit
  refine W.putK hx hb (f := f) ⟨hown, hts _ hl, ⟨_, _, _, hi⟩, hst⟩ (by rw [q2]; exact h6) q1 q3 (by rw [hsl]; exact k2_hasslot (q4 j hj)) rfl rfl hdg fun H' e1 e2 e3 => ?_
  rw [hsl] at e1 ⊢
  exact kk H' _ (k_fin rfl hk ⟨_, k1, t_OB.to (V := updV (vp_V fs) j v) ⟨_, e1, q2, q3, t_set q4 hap hj v⟩ (fun j2 _ => vp_updV_set hlen v j2)⟩ e2 e3)
theorem k_ret (C : Cx p l s m args meth c E cc nL own none) (hk : Sk E b k ci fs i s H locs) (hfs : cellC E b Z0 k = .inr (ci, fs)) (hdg : decode cc pc = .ok (.return_, 1)) : W p l e R s m args below meth c H locs cells slots (MQ below (Qk E b k (1 + i)) args s cells slots (fun q => b + k ≤ q)) (F0 m pc ls []) := by
  obtain ⟨hx, hb, hml, hown, hts, hlocks, hr, ⟨hK, hX⟩, hO⟩ := C
  obtain ⟨z1, z2, z3, z4, z5, z6, z7, z8⟩ := hk
  refine W.vret hx hb hr (fun t ht hW2 => ⟨rfl, by rw [ht]; exact z1, ?_, fun q hq => by rw [ht]; exact z4 q hq⟩) z5 hdg
  rw [ht]
  refine Sg.app (k := k) (n := 1) (fun j hj => ?_) z3
  have hj0 : j = 0 := by omega
  subst hj0
  show va_at E.1 vwCl (b + k, cellC E b Z0 k) H
  rw [hfs]
  exact z2
/-- a reference out of the object itself, or of one of its parts -/
theorem k_get (C : Cx p l s m args meth c E cc nL own rt) {a cq : Nat} {fq : List Value} (hat : va_at E.1 vwCl (a, .inr (cq, fq)) H) {Cn : String} {N : Nat} {T : u_T} {ty : Nat → FieldType} (kc : KC cq Cn T N ty) (j : Nat) (hj : j < N) (hl : Cond.fieldLink own index (T j).1 (T j).2.1 (T j).2.2.1 ∈ tb) {v : Value} (hv : fq[j]? = some v) (hdg : decode cc pc = .ok (.getfield index, 3)) (kk : W p l e R s m args below meth c H locs cells slots Q (F0 m (pc + 3) ls (v :: rest))) : W p l e R s m args below meth c H locs cells slots Q (F0 m pc ls (.ref a :: rest)) := by
  obtain ⟨hx, hb, hml, hown, hts, hlocks, hr, ⟨hK, hX⟩, hO⟩ := C
  obtain ⟨k1, k2, k3, k4⟩ := kc
  exact va_get (D := E.1) (cl := vwCl) (ws := [(a, .inr (cq, fq))]) hx hb hts k2 hown hK (fun q x hq => by
    match q, hq with
    | 0, hq => cases hq; exact hat
    | q + 1, hq => simp at hq) 0 rfl k1 j hj (hts _ hl) (fun _ h => h) hv hdg kk
end RowsK
