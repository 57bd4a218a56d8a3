/-! History(): the ring of eight states -/
def rg (b k i : Nat) : Nat → Option Nat := fun j => if j < i then some (b + (k + 1 + (1 + 31 * j))) else none
def Sr (E : Ev) (b k i : Nat) (s : State) (H : Heap) (locs : List Loc) : Prop := H.size = b + (k + (2 + 31 * i)) ∧ va_at E.1 vwCl (b + k, .inr (0, [.ref (b + (k + 1)), .int 0, .int 0])) H ∧ va_at E.1 vwCl (b + (k + 1), .inl (E.2.2.2.2 3, 8, .inr (.inr (.inr (.inr (rg b k i)))))) H ∧ Sg E b (k + 2) (31 * i) H ∧ (∀ q, q < b + k → H[q]? = s.heap[q]?) ∧ (∀ z ∈ locs, b + k ≤ z.base) ∧ Od E H ∧ E.2.1.size ≤ b + k ∧ va_AO "PageArchive$State" s
/-- .. and a state that is new (j = 0), or made (j = 31) and not yet in the ring -/
def Sq (E : Ev) (b k i : Nat) (s : State) (H : Heap) (locs : List Loc) : Prop := H.size = b + (k + (2 + 31 * i)) + 1 ∧ va_at E.1 vwCl (b + (k + (2 + 31 * i)), .inr (7, [.null, .null, .null, .null])) H ∧ va_at E.1 vwCl (b + k, .inr (0, [.ref (b + (k + 1)), .int 0, .int 0])) H ∧ va_at E.1 vwCl (b + (k + 1), .inl (E.2.2.2.2 3, 8, .inr (.inr (.inr (.inr (rg b k i)))))) H ∧ Sg E b (k + 2) (31 * i) H ∧ (∀ q, q < b + k → H[q]? = s.heap[q]?) ∧ (∀ z ∈ locs, b + k ≤ z.base) ∧ Od E H ∧ E.2.1.size ≤ b + k ∧ va_AO "PageArchive$State" s
def St (E : Ev) (b k i : Nat) (s : State) (H : Heap) (locs : List Loc) : Prop := H.size = b + (k + (2 + 31 * (i + 1))) ∧ va_at E.1 vwCl (b + k, .inr (0, [.ref (b + (k + 1)), .int 0, .int 0])) H ∧ va_at E.1 vwCl (b + (k + 1), .inl (E.2.2.2.2 3, 8, .inr (.inr (.inr (.inr (rg b k i)))))) H ∧ Sg E b (k + 2) (31 * (i + 1)) H ∧ (∀ q, q < b + k → H[q]? = s.heap[q]?) ∧ (∀ z ∈ locs, b + k ≤ z.base) ∧ Od E H ∧ E.2.1.size ≤ b + k ∧ va_AO "PageArchive$State" s
section RowsR0
variable {p : Program} {l : Launch} {e : Env} {R : Room} {s : State} {m : MethodId} {args : Array Value} {below : List Frame} {meth : Method} {c : Code} {H : Heap} {locs : List Loc} {cells slots mc ms : Nat} {Q : State → Prop}
variable {E : Ev} {b k ci i : Nat} {fs : List Value} {cc : ByteArray} {nL : Nat} {own : String} {rt : Option FieldType} {pc index : Nat} {ls : Array Slot} {rest : List Value}
theorem g_putF {a : Nat} (C : Cx p l s m args meth c E cc nL own rt) (hin2 : meth.name = "<init>") (hat : va_at E.1 vwCl (a, .inr (ci, fs)) H) {N : Nat} {T : u_T} {ty : Nat → FieldType} (kc : KC ci own T N ty) (j : Nat) (hj : j < N) (hl : Cond.fieldLink own index (T j).1 (T j).2.1 (T j).2.2.1 ∈ tb) (hfin : (T j).2.2.2 = true) (hdecl : (T j).1 = own) {v : Value} (hn : narrow (ty j) v = v) (hfit : fits (ty j) v = true) (hlen : j < fs.length) {fs' : List Value} (hfs : fs.set j v = fs') (hdg : decode cc pc = .ok (.putfield index, 3))
    (kk : ∀ (H1 : Heap) (sl : Nat), va_at E.1 vwCl (a, .inr (ci, fs')) H1 → H1.size = H.size → (∀ q, q ≠ a → H1[q]? = H[q]?) → W p l e R s m args below meth c H1 (locs ++ [⟨a, sl⟩]) cells slots Q (F0 m (pc + 3) ls rest)) : W p l e R s m args below meth c H locs cells slots Q (F0 m pc ls (v :: .ref a :: rest)) := by
  subst hfs
  obtain ⟨hx, hb, hml, hown, hts, hlocks, hr0, ⟨hK, hX⟩, hO⟩ := C
  obtain ⟨k1, k2, k3, k4⟩ := kc
  have hap := va_apart (own := own) hts k2 ty k3 k4 hK k1
  obtain ⟨r, h1, cell, q1, q2, q3, q4⟩ := hat
  have hr : r = (own, T, N) := Option.some.inj (h1.symm.trans k1)
  subst hr
  obtain ⟨hSl, hfc, kC, hkC, hkind⟩ := hK.1 ci _ k1
  obtain ⟨cf, kf, fi, f, hi, hsl⟩ := hSl j hj
  have hlay := hts _ (k2 _ (u_in_lay hj))
  unfold u_lay at hlay
  rw [if_pos hfin] at hlay
  have hst := (u_facts hfc hkC (u_lays hts k2 hj) hi).1
  have hcf : m.cls = cf := by
    obtain ⟨_, _, c', _, _, _, -, -, hf', -, -, -, hown2, -⟩ := Cond.laysFinal_spec hlay
    have e1 : c' = cf := by have := hi.symm.trans hf'; simp at this; exact this.1.symm
    rw [hdecl] at hown2
    rw [← e1]; exact Option.some.inj (hown.symm.trans hown2)
  have h6 := u_fits hfc hkC hkind (Or.inr hlay) hi (k3 j hj) hn hfit
  refine W.putFinK hx hb hown (hts _ hl) hi hst hcf hin2 (by rw [q2]; exact h6) q1 q3 (by rw [hsl]; exact k2_hasslot (q4 j hj)) rfl rfl hdg fun H' e1 e2 e3 => ?_
  rw [hsl] at e1 ⊢
  exact kk H' _ ⟨_, k1, t_OB.to (V := updV (vp_V fs) j v) ⟨_, e1, q2, q3, t_set q4 hap hj v⟩ (fun j2 _ => vp_updV_set hlen v j2)⟩ e2 e3
theorem g_put {a : Nat} (C : Cx p l s m args meth c E cc nL own rt) (hat : va_at E.1 vwCl (a, .inr (ci, fs)) H) {N : Nat} {T : u_T} {ty : Nat → FieldType} (kc : KC ci own T N ty) (j : Nat) (hj : j < N) (hl : Cond.fieldLink own index (T j).1 (T j).2.1 (T j).2.2.1 ∈ tb) (hfin : (T j).2.2.2 = false) {v : Value} (hn : narrow (ty j) v = v) (hfit : fits (ty j) v = true) (hlen : j < fs.length) {fs' : List Value} (hfs : fs.set j v = fs') (hdg : decode cc pc = .ok (.putfield index, 3))
    (kk : ∀ (H1 : Heap) (sl : Nat), va_at E.1 vwCl (a, .inr (ci, fs')) H1 → H1.size = H.size → (∀ q, q ≠ a → H1[q]? = H[q]?) → W p l e R s m args below meth c H1 (locs ++ [⟨a, sl⟩]) cells slots Q (F0 m (pc + 3) ls rest)) : W p l e R s m args below meth c H locs cells slots Q (F0 m pc ls (v :: .ref a :: rest)) := by
  subst hfs
  obtain ⟨hx, hb, hml, hown, hts, hlocks, hr0, ⟨hK, hX⟩, hO⟩ := C
  obtain ⟨k1, k2, k3, k4⟩ := kc
  have hap := va_apart (own := own) hts k2 ty k3 k4 hK k1
  obtain ⟨r, h1, cell, q1, q2, q3, q4⟩ := hat
  have hr : r = (own, T, N) := Option.some.inj (h1.symm.trans k1)
  subst hr
  obtain ⟨hSl, hfc, kC, hkC, hkind⟩ := hK.1 ci _ k1
  obtain ⟨cf, kf, fi, f, hi, hsl⟩ := hSl j hj
  have hlay := hts _ (k2 _ (u_in_lay hj))
  unfold u_lay at hlay
  rw [if_neg (by rw [hfin]; decide)] at hlay
  have hst := (u_facts hfc hkC (u_lays hts k2 hj) hi).1
  have h6 := u_store hfc hkC hkind hlay hi (k3 j hj) hn hfit
  refine W.putK hx hb (f := f) ⟨hown, hts _ hl, ⟨_, _, _, hi⟩, hst⟩ (by rw [q2]; exact h6) q1 q3 (by rw [hsl]; exact k2_hasslot (q4 j hj)) rfl rfl hdg fun H' e1 e2 e3 => ?_
  rw [hsl] at e1 ⊢
  exact kk H' _ ⟨_, k1, t_OB.to (V := updV (vp_V fs) j v) ⟨_, e1, q2, q3, t_set q4 hap hj v⟩ (fun j2 _ => vp_updV_set hlen v j2)⟩ e2 e3
end RowsR0
section RowsR
variable {p : Program} {l : Launch} {e : Env} {R : Room} {s : State} {m : MethodId} {args : Array Value} {below : List Frame} {meth : Method} {c : Code} {H : Heap} {locs : List Loc} {cells slots mc ms : Nat} {Q : State → Prop}
variable {E : Ev} {b k i : Nat} {cc : ByteArray} {nL : Nat} {own : String} {rt : Option FieldType} {pc index : Nat} {ls : Array Slot} {rest : List Value}
theorem r_anew (C : Cx p l s m args meth c E cc nL own rt) (hk : Sk E b k 0 [.null, .int 0, .int 0] 0 s H locs) (hcl : Cond.classLink own index "PageArchive$State" ∈ tb) (hc : cells + 1 ≤ R.cells ∧ slots + 8 ≤ R.slots) (hdg : decode cc pc = .ok (.anewarray index, 3))
    (kk : ∀ H1 : Heap, H1.size = b + (k + (2 + 31 * 0)) → va_at E.1 vwCl (b + (k + 1), .inl (E.2.2.2.2 3, 8, .inr (.inr (.inr (.inr (rg b k 0)))))) H1 → (∀ q, q < b + (k + 1) → H1[q]? = H[q]?) → W p l e R s m args below meth c H1 locs (cells + 1) (slots + 8) Q (F0 m (pc + 3) ls (.ref (b + (k + 1)) :: rest))) : W p l e R s m args below meth c H locs cells slots Q (F0 m pc ls (.int 8 :: rest)) := by
  obtain ⟨hx, hb, hml, hown, hts, hlocks, hr, ⟨hK, hX⟩, hO⟩ := C
  obtain ⟨z1, z2, z3, z4, z5, z6, z7, z8⟩ := hk
  have z1 : H.size = b + (k + 1) := z1
  refine W.anew hx hb hown (hts _ hcl) (va_AO.use z8) rfl hdg rfl (by decide) (by decide) hc.1 hc.2 fun cA kA comp f1 f2 f3 f4 => ?_
  have hcA : cA = E.2.2.2.2 3 := by
    obtain ⟨kA', comp', -, -, -, h4⟩ : va_RA s (E.2.2.2.2 3) (.object "PageArchive$State") := (hK.2 3 _ rfl).2
    exact Option.some.inj (f1.symm.trans h4)
  subst hcA
  generalize hH1 : H.push ({ cls := E.2.2.2.2 3, slots := Array.replicate (8 : Int32).toNatClampNeg .null, vm := .none } : Cell) = H1
  have y1 : H1.size = H.size + 1 := by rw [← hH1, Array.size_push]
  have e1 : H1[H.size]? = some (arrV (E.2.2.2.2 3) 8 (fun _ => .null)) := by rw [← hH1, Array.getElem?_push_size, ← arrV_new]; rfl
  have o1 : ∀ q : Nat, q < H.size → H1[q]? = H[q]? := fun q hq => by rw [← hH1, Array.getElem?_push, if_neg (Nat.ne_of_lt hq)]
  have hz : H.size = b + (k + 1) := z1
  rw [hz] at e1 y1
  have k3 := kk H1 y1 (by show H1[b + (k + 1)]? = some (vp_cell _ _); rw [e1, vp_cell_q]; rfl) (fun q hq => o1 q (by omega))
  refine W.eq ?_ k3
  show F0 m (pc + 3) ls (.ref H.size :: rest) = _
  rw [hz]
theorem r_new (C : Cx p l s m args meth c E cc nL own rt) (hk : Sr E b k i s H locs) (hcl : Cond.classLink own index "PageArchive$State" ∈ tb) (hc : cells + 1 ≤ R.cells ∧ slots + 4 ≤ R.slots) (hdg : decode cc pc = .ok (.new index, 3))
    (kk : ∀ H1 : Heap, Sq E b k i s H1 locs → W p l e R s m args below meth c H1 locs (cells + 1) (slots + 4) Q (F0 m (pc + 3) ls (.ref (b + (k + (2 + 31 * i))) :: rest))) : W p l e R s m args below meth c H locs cells slots Q (F0 m pc ls rest) := by
  obtain ⟨hx, hb, hml, hown, hts, hlocks, hr, ⟨hK, hX⟩, hO⟩ := C
  obtain ⟨k1, k2, k3, k4⟩ := kcX7
  obtain ⟨z1, z2, zr, z3, z4, z5, z6, z7, z8⟩ := hk
  have hKn := hK.1 7 _ k1
  refine W.newcK hx hb hown (hts _ hcl) (hts _ inX7) (hts _ iniX7) rfl hdg hc.1 hc.2 hKn.2.1 z1 fun H1 kC hkC e1 y1 o1 => ?_
  exact kk H1 ⟨y1, ⟨_, k1, (u_born tyX7 hts k2 hKn hkC e1 k3).to (fun j hj => by rcases (show j = 0 ∨ j = 1 ∨ j = 2 ∨ j = 3 by omega) with rfl | rfl | rfl | rfl <;> rfl)⟩, z2.kept (o1 _ (by show b + k < _; omega)), zr.kept (o1 _ (by show b + (k + 1) < _; omega)), z3.kept (fun q _ h2 => o1 q (by omega)), fun q hq => (o1 q (by omega)).trans (z4 q hq), z5, ⟨Nat.le_trans z6.1 (by omega), fun q hq => (o1 q (by have := z6.1; omega)).trans (z6.2 q hq)⟩, z7, z8⟩
theorem r_ctor (C : Cx p l s m args meth c E cc nL own rt) (hk : Sq E b k i s H locs) (hkd : kd (k + (2 + 31 * i)) = 7) (hlk : Cond.methodLink own index yX7_init ∈ tb) (hR : 4 ≤ R.frames ∧ 74 ≤ R.locals) (hls : ls.size = nL) (hsum : (rest.map fun v => v.category).sum ≤ 8) (hf : cells + 30 ≤ R.cells ∧ slots + 375 ≤ R.slots) (hdg : decode cc pc = .ok (.invokespecial index, 3))
    (kk : ∀ (H1 : Heap) (locs1 : List Loc), St E b k i s H1 locs1 → W p l e R s m args below meth c H1 locs1 (cells + 30) (slots + 375) Q (F0 m (pc + 3) ls rest)) : W p l e R s m args below meth c H locs cells slots Q (F0 m pc ls (.ref (b + (k + (2 + 31 * i))) :: rest)) := by
  obtain ⟨hx, hb, hml, hown, hts, hlocks, hr, ⟨hK, hX⟩, hO⟩ := C
  obtain ⟨w1, w2, w3, w4⟩ := cwX7_init
  obtain ⟨z1, zp, z2, zr, z3, z4, z5, z6, z7, z8⟩ := hk
  have hrun := va_runI (p := p) (e := e) (below := below) (meth := meth) (H := H) (locs := locs) (cells := cells) (slots := slots) (g := F0 m pc ls (.ref (b + (k + (2 + 31 * i))) :: rest)) (rest := rest) (As := []) ⟨hx, hb, hml, hown, hts⟩ (nX7 (l := l) (E := E) (b := b) (k + (2 + 31 * i)) hkd) (cwI 0 hts (tw_good w1) rfl rfl rfl (hts _ w2) (hts _ hlk) (hts _ imX7_init) rfl ⟨w3.1, w3.2, w4⟩ ⟨hR.1, hR.2⟩) ⟨Pk.blind _, fun U hU hWm => ⟨rfl, Kn.warm hWm ⟨hK, hX⟩, by rw [hU]; exact z6, by omega, by rw [hU]; exact z1, by rw [hU]; exact zp, va_AO.moved hWm.alike z8⟩⟩ rfl rfl hls rfl (lv_room hsum) hdg hf
  intro Tt hT X
  obtain ⟨v, st₀, t, T', L', h0, X', hL, e1, e2, ⟨hv, hz, hg, hk2⟩, stp⟩ := hrun Tt hT X
  cases hv
  rw [h0] at hk2
  have hfr : ∀ q, q < b + (k + (2 + 31 * i)) → T'.heap[q]? = H[q]? := fun q hq => by rw [e1]; exact hk2 q hq
  have g1 : T'.heap.size = b + (k + (2 + 31 * (i + 1))) := by rw [e1, hz]; omega
  have g2 : Sg E b (k + 2 + 31 * i) 31 T'.heap := by
    have e3 : k + 2 + 31 * i = k + (2 + 31 * i) := by omega
    rw [e3, e1]
    exact hg
  have g3 : ∀ z ∈ locs ++ L', b + k ≤ z.base := fun z hz => by
    rcases List.mem_append.mp hz with h | h
    · exact z5 z h
    · have h9 : b + (k + (2 + 31 * i)) ≤ z.base := hL z h
      omega
  have g4 : Od E T'.heap := ⟨by have := z6.1; omega, fun q hq => (hfr q (by have := z7; omega)).trans (z6.2 q hq)⟩
  have g6 : Sg E b (k + 2) (31 * (i + 1)) T'.heap := by
    have g5 := (z3.kept (fun q _ h2 => hfr q (by omega))).app g2
    have e5 : 31 * i + 31 = 31 * (i + 1) := by omega
    rw [e5] at g5
    exact g5
  obtain ⟨t2, a1, b1⟩ := kk T'.heap (locs ++ L') ⟨g1, z2.kept (hfr _ (by show b + k < _; omega)), zr.kept (hfr _ (by show b + (k + 1) < _; omega)), g6, fun q hq => (hfr q (by omega)).trans (z4 q hq), g3, g4, z7, z8⟩ T' rfl X'
  exact ⟨t2, stp t2 a1, b1⟩
theorem r_ast (C : Cx p l s m args meth c E cc nL own rt) (hk : St E b k i s H locs) (hkd : kd (k + (2 + 31 * i)) = 7) (hi : i < 8) {x : Int32} (hx1 : ¬ x < 0) (hx2 : x.toNatClampNeg = i) (hdg : decode cc pc = .ok (.aastore, 1))
    (kk : ∀ (H1 : Heap) (locs1 : List Loc), Sr E b k (i + 1) s H1 locs1 → W p l e R s m args below meth c H1 locs1 cells slots Q (F0 m (pc + 1) ls rest)) : W p l e R s m args below meth c H locs cells slots Q (F0 m pc ls (.ref (b + (k + (2 + 31 * i))) :: .int x :: .ref (b + (k + 1)) :: rest)) := by
  obtain ⟨hx, hb, hml, hown, hts, hlocks, hr, ⟨hK, hX⟩, hO⟩ := C
  obtain ⟨z1, z2, zr, z3, z4, z5, z6, z7, z8⟩ := hk
  have hv : va_at E.1 vwCl (b + (k + (2 + 31 * i)), .inr (7, [.ref (b + (k + (2 + 31 * i) + 1)), .ref (b + (k + (2 + 31 * i) + 12)), .ref (b + (k + (2 + 31 * i) + 21)), .ref (b + (k + (2 + 31 * i) + 28))])) H := by
    have h1 := z3 (31 * i) (by omega)
    have e1 : k + 2 + 31 * i = k + (2 + 31 * i) := by omega
    rw [e1] at h1
    have h2 : cellC E b Z0 (k + (2 + 31 * i)) = _ := ccX7 (E := E) (b := b) (σ := Z0) hkd
    rw [h2] at h1
    exact h1
  obtain ⟨r', hr', cellV, g1, g2, g3, -⟩ := hv
  have hcls := (hK.1 7 _ kcX7.1).2
  obtain ⟨kA, comp, k1, k2, k3, -⟩ : va_RA s (E.2.2.2.2 3) (.object "PageArchive$State") := (hK.2 3 _ rfl).2
  have hcomp : comp = E.1.1 7 := Option.some.inj (k3.symm.trans hcls.1)
  subst hcomp
  obtain ⟨kC, hkC, -⟩ := hcls.2
  have zr' : H[b + (k + 1)]? = some (arrV (E.2.2.2.2 3) 8 (fun j => va_rf (rg b k i j))) := zr
  refine W.aast hx hb zr' (fun q h => by cases h) (fun h => by cases h) k1 k2 rfl hkC ⟨hx1, by rw [arrV_size, hx2]; exact hi⟩ g1 (fun q h => by rw [g3] at h; cases h) (by rw [g2]; exact hkC) (by rw [g2]; exact va_assign hcls) rfl rfl hdg fun H1 e y oq => ?_
  rw [arrV_store] at e
  have oq : ∀ q : Nat, q ≠ b + (k + 1) → H1[q]? = H[q]? := oq
  have hnew : va_at E.1 vwCl (b + (k + 1), .inl (E.2.2.2.2 3, 8, .inr (.inr (.inr (.inr (rg b k (i + 1))))))) H1 := by
    show H1[b + (k + 1)]? = some (vp_cell _ _)
    rw [e, vp_cell_q]
    congr 2
    funext q
    rw [hx2]
    unfold updV rg
    by_cases hq : q = i
    · rw [if_pos hq, if_pos (by omega), hq]
      show Value.ref (b + (k + (2 + 31 * i))) = Value.ref (b + (k + 1 + (1 + 31 * i)))
      rw [show k + 1 + (1 + 31 * i) = k + (2 + 31 * i) by omega]
    · rw [if_neg hq]
      show va_rf (if q < i then some (b + (k + 1 + (1 + 31 * q))) else none) = _
      by_cases hq2 : q < i
      · rw [if_pos hq2, if_pos (by omega)]
      · rw [if_neg hq2, if_neg (by omega)]
  refine kk H1 _ ⟨y.trans z1, z2.kept (oq _ (by show b + k ≠ _; omega)), hnew, z3.kept (fun q h1 h2 => oq q (by omega)), fun q hq => (oq q (by omega)).trans (z4 q hq), fun z hz => ?_, ⟨by rw [y]; exact z6.1, fun q hq => (oq q (by have := z7; omega)).trans (z6.2 q hq)⟩, z7, z8⟩
  rcases List.mem_append.mp hz with h | h
  · exact z5 z h
  · simp only [List.mem_cons, List.not_mem_nil, or_false] at h
    rw [h]
    show b + k ≤ b + (k + 1)
    omega
theorem r_alen (C : Cx p l s m args meth c E cc nL own rt) (hk : Sr E b k i s H locs) (hdg : decode cc pc = .ok (.arraylength, 1)) (kk : W p l e R s m args below meth c H locs cells slots Q (F0 m (pc + 1) ls (.int 8 :: rest))) : W p l e R s m args below meth c H locs cells slots Q (F0 m pc ls (.ref (b + (k + 1)) :: rest)) := by
  obtain ⟨hx, hb, hml, hown, hts, hlocks, hr, ⟨hK, hX⟩, hO⟩ := C
  exact va_alen (D := E.1) (cl := vwCl) (ws := [(b + (k + 1), .inl (E.2.2.2.2 3, 8, .inr (.inr (.inr (.inr (rg b k i))))))]) hx hb hK (fun q x hq => by
    match q, hq with
    | 0, hq => cases hq; exact hk.2.2.1
    | q + 1, hq => simp at hq) 0 3 rfl rfl rfl hdg kk
end RowsR
theorem kdr {k i : Nat} (h : kd k = 0) (hi : i < 8) : kd (k + (2 + 31 * i)) = 7 := by
  have h1 := chG (chX0_0 h) hi
  have e1 : k + 1 + (1 + 31 * i) = k + (2 + 31 * i) := by omega
  rw [e1] at h1
  exact h1
set_option maxRecDepth 100000 in
set_option maxHeartbeats 8000000 in
theorem nX0 {l : Launch} {E : Ev} {b : Nat} (k : Nat) (hk0 : kd k = 0) : Met l yX0_init (tw yX0_init cX0_init 2 none) { frames := 4, cells := 249, slots := 3040, locals := 74 } (va_Pc [.ref (b + k)] (Pk l E b k 0 [.null, .int 0, .int 0])) (Qk E b k 250) 249 3040 (fun q => b + k ≤ q) := by
  refine ck_of (by decide) rfl (Nat.le_of_ble_eq_true rfl) ?_
  intro p e s m below meth c C hin hk ls hl
  have hx0 := C.1
  have hb := C.2.1
  have hl : lv_has ls 2 [(0, .ref (b + k))] := hl
  refine lv_aload_n hx0 hb dX0_init_0 rfl (lv_at hl 0 rfl) ?_
  refine k_obj C mlX0_3 hl.1 ⟨Nat.le_of_ble_eq_true rfl, Nat.le_of_ble_eq_true rfl⟩ dX0_init_1 ?_
  refine lv_aload_n hx0 hb dX0_init_4 rfl (lv_at hl 0 rfl) ?_
  refine lv_bipush (v := (8 : Int32)) hx0 hb dX0_init_5 (by decide) ?_
  refine r_anew C hk clX0_9 ⟨by decide, by decide⟩ dX0_init_7 (fun H hz hrg hfr => ?_)
  obtain ⟨y1, y2, y3, y4, y5, y6, y7, y8⟩ := hk
  have y1 : s.heap.size = b + (k + 1) := y1
  refine g_putF C hin (y2.kept (hfr _ (by show b + k < _; omega))) kcX0 0 (by decide) flX0_11 rfl rfl rfl rfl (Nat.le_of_ble_eq_true rfl) (fs' := [.ref (b + (k + 1)), .int 0, .int 0]) rfl dX0_init_10 (fun H1 l1 a1 z1 o1 => ?_)
  refine lv_aload_n hx0 hb dX0_init_13 rfl (lv_at hl 0 rfl) ?_
  refine lv_iconst (v := (0 : Int32)) hx0 hb dX0_init_14 (by decide) ?_
  refine g_put C a1 kcX0 1 (by decide) flX0_17 rfl rfl rfl (Nat.le_of_ble_eq_true rfl) (fs' := [.ref (b + (k + 1)), .int 0, .int 0]) rfl dX0_init_15 (fun H2 l2 a2 z2 o2 => ?_)
  refine lv_aload_n hx0 hb dX0_init_18 rfl (lv_at hl 0 rfl) ?_
  refine lv_iconst (v := (0 : Int32)) hx0 hb dX0_init_19 (by decide) ?_
  refine g_put C a2 kcX0 2 (by decide) flX0_21 rfl rfl rfl (Nat.le_of_ble_eq_true rfl) (fs' := [.ref (b + (k + 1)), .int 0, .int 0]) rfl dX0_init_20 (fun H3 l3 a3 z3 o3 => ?_)
  have ho : ∀ q, q ≠ b + k → H3[q]? = H[q]? := fun q hq => ((o3 q hq).trans (o2 q hq)).trans (o1 q hq)
  have hk : Sr E b k 0 s H3 ((([] ++ [⟨b + k, l1⟩]) ++ [⟨b + k, l2⟩]) ++ [⟨b + k, l3⟩]) := by
    refine ⟨by rw [z3, z2, z1]; exact hz, a3, hrg.kept (ho _ (by show b + (k + 1) ≠ _; omega)), fun j hj => absurd hj (by omega), fun q hq => (ho q (by omega)).trans ((hfr q (by omega)).trans (y4 q hq)), fun z hz => ?_, ⟨by rw [z3, z2, z1, hz]; have := y6.1; omega, fun q hq => (ho q (by omega)).trans ((hfr q (by omega)).trans (y6.2 q hq))⟩, y7, y8⟩
    simp only [List.nil_append, List.mem_append, List.mem_cons, List.not_mem_nil, or_false] at hz
    rcases hz with (rfl | rfl) | rfl <;> exact Nat.le_refl _
  generalize ((([] ++ [⟨b + k, l1⟩]) ++ [⟨b + k, l2⟩]) ++ [⟨b + k, l3⟩] : List Loc) = locs at hk ⊢
  generalize H3 = H at hk ⊢
  refine lv_iconst (v := (0 : Int32)) hx0 hb dX0_init_23 (by decide) ?_
  refine lv_istore_n (lv' := [(1, .int (0 : Int32)), (0, .ref (b + k))]) hx0 hb dX0_init_24 rfl hl (by decide) rfl (fun ls hl => ?_)
  refine lv_iload_n hx0 hb dX0_init_25 rfl (lv_at hl 0 rfl) ?_
  refine lv_aload_n hx0 hb dX0_init_26 rfl (lv_at hl 1 rfl) ?_
  refine k_get C hk.2.1 kcX0 0 (by decide) flX0_11 rfl dX0_init_27 ?_
  refine r_alen C hk dX0_init_30 ?_
  refine lv_icmp_ge (tgt := 53) hx0 hb dX0_init_31 (by decide) (fun z => absurd z (by decide)) (fun _ => ?_)
  refine lv_aload_n hx0 hb dX0_init_34 rfl (lv_at hl 1 rfl) ?_
  refine k_get C hk.2.1 kcX0 0 (by decide) flX0_11 rfl dX0_init_35 ?_
  refine lv_iload_n hx0 hb dX0_init_38 rfl (lv_at hl 0 rfl) ?_
  refine r_new C hk clX0_9 ⟨by decide, by decide⟩ dX0_init_39 (fun H hk => ?_)
  refine lv_dup hx0 hb dX0_init_42 rfl ?_
  refine r_ctor C hk (kdr hk0 (by decide)) mlX0_24 ⟨by decide, by decide⟩ hl.1 (Nat.le_of_ble_eq_true rfl) ⟨by decide, by decide⟩ dX0_init_43 (fun H locs hk => ?_)
  refine r_ast C hk (kdr hk0 (by decide)) (by decide) (by decide) (by decide) dX0_init_46 (fun H locs hk => ?_)
  refine lv_iinc (v := (1 : Int32)) (lv' := [(1, .int (1 : Int32)), (0, .ref (b + k))]) hx0 hb dX0_init_47 hl (k := 0) rfl (by decide) (by decide) rfl (fun ls hl => ?_)
  refine lv_goto (tgt := 25) hx0 hb dX0_init_50 (by decide) ?_
  refine lv_iload_n hx0 hb dX0_init_25 rfl (lv_at hl 0 rfl) ?_
  refine lv_aload_n hx0 hb dX0_init_26 rfl (lv_at hl 1 rfl) ?_
  refine k_get C hk.2.1 kcX0 0 (by decide) flX0_11 rfl dX0_init_27 ?_
  refine r_alen C hk dX0_init_30 ?_
  refine lv_icmp_ge (tgt := 53) hx0 hb dX0_init_31 (by decide) (fun z => absurd z (by decide)) (fun _ => ?_)
  refine lv_aload_n hx0 hb dX0_init_34 rfl (lv_at hl 1 rfl) ?_
  refine k_get C hk.2.1 kcX0 0 (by decide) flX0_11 rfl dX0_init_35 ?_
  refine lv_iload_n hx0 hb dX0_init_38 rfl (lv_at hl 0 rfl) ?_
  refine r_new C hk clX0_9 ⟨by decide, by decide⟩ dX0_init_39 (fun H hk => ?_)
  refine lv_dup hx0 hb dX0_init_42 rfl ?_
  refine r_ctor C hk (kdr hk0 (by decide)) mlX0_24 ⟨by decide, by decide⟩ hl.1 (Nat.le_of_ble_eq_true rfl) ⟨by decide, by decide⟩ dX0_init_43 (fun H locs hk => ?_)
  refine r_ast C hk (kdr hk0 (by decide)) (by decide) (by decide) (by decide) dX0_init_46 (fun H locs hk => ?_)
  refine lv_iinc (v := (2 : Int32)) (lv' := [(1, .int (2 : Int32)), (0, .ref (b + k))]) hx0 hb dX0_init_47 hl (k := 0) rfl (by decide) (by decide) rfl (fun ls hl => ?_)
  refine lv_goto (tgt := 25) hx0 hb dX0_init_50 (by decide) ?_
  refine lv_iload_n hx0 hb dX0_init_25 rfl (lv_at hl 0 rfl) ?_
  refine lv_aload_n hx0 hb dX0_init_26 rfl (lv_at hl 1 rfl) ?_
  refine k_get C hk.2.1 kcX0 0 (by decide) flX0_11 rfl dX0_init_27 ?_
  refine r_alen C hk dX0_init_30 ?_
  refine lv_icmp_ge (tgt := 53) hx0 hb dX0_init_31 (by decide) (fun z => absurd z (by decide)) (fun _ => ?_)
  refine lv_aload_n hx0 hb dX0_init_34 rfl (lv_at hl 1 rfl) ?_
  refine k_get C hk.2.1 kcX0 0 (by decide) flX0_11 rfl dX0_init_35 ?_
  refine lv_iload_n hx0 hb dX0_init_38 rfl (lv_at hl 0 rfl) ?_
  refine r_new C hk clX0_9 ⟨by decide, by decide⟩ dX0_init_39 (fun H hk => ?_)
  refine lv_dup hx0 hb dX0_init_42 rfl ?_
  refine r_ctor C hk (kdr hk0 (by decide)) mlX0_24 ⟨by decide, by decide⟩ hl.1 (Nat.le_of_ble_eq_true rfl) ⟨by decide, by decide⟩ dX0_init_43 (fun H locs hk => ?_)
  refine r_ast C hk (kdr hk0 (by decide)) (by decide) (by decide) (by decide) dX0_init_46 (fun H locs hk => ?_)
  refine lv_iinc (v := (3 : Int32)) (lv' := [(1, .int (3 : Int32)), (0, .ref (b + k))]) hx0 hb dX0_init_47 hl (k := 0) rfl (by decide) (by decide) rfl (fun ls hl => ?_)
  refine lv_goto (tgt := 25) hx0 hb dX0_init_50 (by decide) ?_
  refine lv_iload_n hx0 hb dX0_init_25 rfl (lv_at hl 0 rfl) ?_
  refine lv_aload_n hx0 hb dX0_init_26 rfl (lv_at hl 1 rfl) ?_
  refine k_get C hk.2.1 kcX0 0 (by decide) flX0_11 rfl dX0_init_27 ?_
  refine r_alen C hk dX0_init_30 ?_
  refine lv_icmp_ge (tgt := 53) hx0 hb dX0_init_31 (by decide) (fun z => absurd z (by decide)) (fun _ => ?_)
  refine lv_aload_n hx0 hb dX0_init_34 rfl (lv_at hl 1 rfl) ?_
  refine k_get C hk.2.1 kcX0 0 (by decide) flX0_11 rfl dX0_init_35 ?_
  refine lv_iload_n hx0 hb dX0_init_38 rfl (lv_at hl 0 rfl) ?_
  refine r_new C hk clX0_9 ⟨by decide, by decide⟩ dX0_init_39 (fun H hk => ?_)
  refine lv_dup hx0 hb dX0_init_42 rfl ?_
  refine r_ctor C hk (kdr hk0 (by decide)) mlX0_24 ⟨by decide, by decide⟩ hl.1 (Nat.le_of_ble_eq_true rfl) ⟨by decide, by decide⟩ dX0_init_43 (fun H locs hk => ?_)
  refine r_ast C hk (kdr hk0 (by decide)) (by decide) (by decide) (by decide) dX0_init_46 (fun H locs hk => ?_)
  refine lv_iinc (v := (4 : Int32)) (lv' := [(1, .int (4 : Int32)), (0, .ref (b + k))]) hx0 hb dX0_init_47 hl (k := 0) rfl (by decide) (by decide) rfl (fun ls hl => ?_)
  refine lv_goto (tgt := 25) hx0 hb dX0_init_50 (by decide) ?_
  refine lv_iload_n hx0 hb dX0_init_25 rfl (lv_at hl 0 rfl) ?_
  refine lv_aload_n hx0 hb dX0_init_26 rfl (lv_at hl 1 rfl) ?_
  refine k_get C hk.2.1 kcX0 0 (by decide) flX0_11 rfl dX0_init_27 ?_
  refine r_alen C hk dX0_init_30 ?_
  refine lv_icmp_ge (tgt := 53) hx0 hb dX0_init_31 (by decide) (fun z => absurd z (by decide)) (fun _ => ?_)
  refine lv_aload_n hx0 hb dX0_init_34 rfl (lv_at hl 1 rfl) ?_
  refine k_get C hk.2.1 kcX0 0 (by decide) flX0_11 rfl dX0_init_35 ?_
  refine lv_iload_n hx0 hb dX0_init_38 rfl (lv_at hl 0 rfl) ?_
  refine r_new C hk clX0_9 ⟨by decide, by decide⟩ dX0_init_39 (fun H hk => ?_)
  refine lv_dup hx0 hb dX0_init_42 rfl ?_
  refine r_ctor C hk (kdr hk0 (by decide)) mlX0_24 ⟨by decide, by decide⟩ hl.1 (Nat.le_of_ble_eq_true rfl) ⟨by decide, by decide⟩ dX0_init_43 (fun H locs hk => ?_)
  refine r_ast C hk (kdr hk0 (by decide)) (by decide) (by decide) (by decide) dX0_init_46 (fun H locs hk => ?_)
  refine lv_iinc (v := (5 : Int32)) (lv' := [(1, .int (5 : Int32)), (0, .ref (b + k))]) hx0 hb dX0_init_47 hl (k := 0) rfl (by decide) (by decide) rfl (fun ls hl => ?_)
  refine lv_goto (tgt := 25) hx0 hb dX0_init_50 (by decide) ?_
  refine lv_iload_n hx0 hb dX0_init_25 rfl (lv_at hl 0 rfl) ?_
  refine lv_aload_n hx0 hb dX0_init_26 rfl (lv_at hl 1 rfl) ?_
  refine k_get C hk.2.1 kcX0 0 (by decide) flX0_11 rfl dX0_init_27 ?_
  refine r_alen C hk dX0_init_30 ?_
  refine lv_icmp_ge (tgt := 53) hx0 hb dX0_init_31 (by decide) (fun z => absurd z (by decide)) (fun _ => ?_)
  refine lv_aload_n hx0 hb dX0_init_34 rfl (lv_at hl 1 rfl) ?_
  refine k_get C hk.2.1 kcX0 0 (by decide) flX0_11 rfl dX0_init_35 ?_
  refine lv_iload_n hx0 hb dX0_init_38 rfl (lv_at hl 0 rfl) ?_
  refine r_new C hk clX0_9 ⟨by decide, by decide⟩ dX0_init_39 (fun H hk => ?_)
  refine lv_dup hx0 hb dX0_init_42 rfl ?_
  refine r_ctor C hk (kdr hk0 (by decide)) mlX0_24 ⟨by decide, by decide⟩ hl.1 (Nat.le_of_ble_eq_true rfl) ⟨by decide, by decide⟩ dX0_init_43 (fun H locs hk => ?_)
  refine r_ast C hk (kdr hk0 (by decide)) (by decide) (by decide) (by decide) dX0_init_46 (fun H locs hk => ?_)
  refine lv_iinc (v := (6 : Int32)) (lv' := [(1, .int (6 : Int32)), (0, .ref (b + k))]) hx0 hb dX0_init_47 hl (k := 0) rfl (by decide) (by decide) rfl (fun ls hl => ?_)
  refine lv_goto (tgt := 25) hx0 hb dX0_init_50 (by decide) ?_
  refine lv_iload_n hx0 hb dX0_init_25 rfl (lv_at hl 0 rfl) ?_
  refine lv_aload_n hx0 hb dX0_init_26 rfl (lv_at hl 1 rfl) ?_
  refine k_get C hk.2.1 kcX0 0 (by decide) flX0_11 rfl dX0_init_27 ?_
  refine r_alen C hk dX0_init_30 ?_
  refine lv_icmp_ge (tgt := 53) hx0 hb dX0_init_31 (by decide) (fun z => absurd z (by decide)) (fun _ => ?_)
  refine lv_aload_n hx0 hb dX0_init_34 rfl (lv_at hl 1 rfl) ?_
  refine k_get C hk.2.1 kcX0 0 (by decide) flX0_11 rfl dX0_init_35 ?_
  refine lv_iload_n hx0 hb dX0_init_38 rfl (lv_at hl 0 rfl) ?_
  refine r_new C hk clX0_9 ⟨by decide, by decide⟩ dX0_init_39 (fun H hk => ?_)
  refine lv_dup hx0 hb dX0_init_42 rfl ?_
  refine r_ctor C hk (kdr hk0 (by decide)) mlX0_24 ⟨by decide, by decide⟩ hl.1 (Nat.le_of_ble_eq_true rfl) ⟨by decide, by decide⟩ dX0_init_43 (fun H locs hk => ?_)
  refine r_ast C hk (kdr hk0 (by decide)) (by decide) (by decide) (by decide) dX0_init_46 (fun H locs hk => ?_)
  refine lv_iinc (v := (7 : Int32)) (lv' := [(1, .int (7 : Int32)), (0, .ref (b + k))]) hx0 hb dX0_init_47 hl (k := 0) rfl (by decide) (by decide) rfl (fun ls hl => ?_)
  refine lv_goto (tgt := 25) hx0 hb dX0_init_50 (by decide) ?_
  refine lv_iload_n hx0 hb dX0_init_25 rfl (lv_at hl 0 rfl) ?_
  refine lv_aload_n hx0 hb dX0_init_26 rfl (lv_at hl 1 rfl) ?_
  refine k_get C hk.2.1 kcX0 0 (by decide) flX0_11 rfl dX0_init_27 ?_
  refine r_alen C hk dX0_init_30 ?_
  refine lv_icmp_ge (tgt := 53) hx0 hb dX0_init_31 (by decide) (fun z => absurd z (by decide)) (fun _ => ?_)
  refine lv_aload_n hx0 hb dX0_init_34 rfl (lv_at hl 1 rfl) ?_
  refine k_get C hk.2.1 kcX0 0 (by decide) flX0_11 rfl dX0_init_35 ?_
  refine lv_iload_n hx0 hb dX0_init_38 rfl (lv_at hl 0 rfl) ?_
  refine r_new C hk clX0_9 ⟨by decide, by decide⟩ dX0_init_39 (fun H hk => ?_)
  refine lv_dup hx0 hb dX0_init_42 rfl ?_
  refine r_ctor C hk (kdr hk0 (by decide)) mlX0_24 ⟨by decide, by decide⟩ hl.1 (Nat.le_of_ble_eq_true rfl) ⟨by decide, by decide⟩ dX0_init_43 (fun H locs hk => ?_)
  refine r_ast C hk (kdr hk0 (by decide)) (by decide) (by decide) (by decide) dX0_init_46 (fun H locs hk => ?_)
  refine lv_iinc (v := (8 : Int32)) (lv' := [(1, .int (8 : Int32)), (0, .ref (b + k))]) hx0 hb dX0_init_47 hl (k := 0) rfl (by decide) (by decide) rfl (fun ls hl => ?_)
  refine lv_goto (tgt := 25) hx0 hb dX0_init_50 (by decide) ?_
  refine lv_iload_n hx0 hb dX0_init_25 rfl (lv_at hl 0 rfl) ?_
  refine lv_aload_n hx0 hb dX0_init_26 rfl (lv_at hl 1 rfl) ?_
  refine k_get C hk.2.1 kcX0 0 (by decide) flX0_11 rfl dX0_init_27 ?_
  refine r_alen C hk dX0_init_30 ?_
  refine lv_icmp_ge (tgt := 53) hx0 hb dX0_init_31 (by decide) (fun _ => ?_) (fun z => absurd (by decide) z)
  obtain ⟨q1, q2, qr, q3, q4, q5, q6, q7, q8⟩ := hk
  refine k_ret (i := 249) (fs := [.ref (b + (k + 1)), .int 0, .int 0]) C ⟨by rw [q1], q2, ?_, q4, q5, q6, q7, q8⟩ (by have h9 := ccX0 (E := E) (b := b) (σ := Z0) hk0; simp only [z0 hk0 (by decide)] at h9; exact h9) dX0_init_53
  refine Sg.app (k := k + 1) (n := 1) (n' := 248) (fun j hj => ?_) q3
  have hj0 : j = 0 := by omega
  subst hj0
  show va_at E.1 vwCl (b + (k + 1), cellC E b Z0 (k + 1)) _
  have h9 : cellC E b Z0 (k + 1) = _ := cc99 (E := E) (b := b) (σ := Z0) (chX0_0 hk0)
  rw [h9]
  have qr' : _ = some (arrV (E.2.2.2.2 3) 8 (fun j => va_rf (rg b k 8 j))) := qr
  show _ = some (arrV (E.2.2.2.2 3) 8 (fun j => va_rf (some (b + (k + 1 + (1 + 31 * j))))))
  rw [qr']
  congr 1
