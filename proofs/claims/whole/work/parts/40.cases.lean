/-! THE LAW'S BODY: rows over the class's world, the reference's and the row of one long together -/
def WL (E : Ev) (a b o : Nat) (σ τ : Mem) (w : Int64) (H : Heap) : Prop := Wd E (LC E a) σ H ∧ Wd E (LM E b) τ H ∧ Ow E o w H ∧ Od E H ∧ a + 384 ≤ b ∧ b + 18 ≤ o
theorem Wd.keep {E : Ev} {L : Lay} {σ : Mem} {H H1 : Heap} (h : Wd E L σ H) (hq : ∀ q, q < H.size → L.2.1 ≤ q → q < L.2.1 + L.1 → H1[q]? = H[q]?) : Wd E L σ H1 := ⟨h.1.kept (fun k q hk => by
  have h0 := (h.1 k q hk).lt
  obtain ⟨h1, rfl⟩ := wl_of hk
  exact hq _ h0 (Nat.le_add_right _ _) (Nat.add_lt_add_left h1 _)), h.2⟩
def An (s : State) : Nat → Prop := fun q => s.heap.size ≤ q
theorem lcmp0 (x : Int64) : lg_cmp x x = 0 := by simp [lg_cmp]
theorem Od.keep {E : Ev} {H H1 : Heap} (h : Od E H) (hz : H.size ≤ H1.size) (hq : ∀ q, q < E.2.1.size → H1[q]? = H[q]?) : Od E H1 := ⟨Nat.le_trans h.1 hz, fun q h1 => (hq q h1).trans (h.2 q h1)⟩
section RowsZ
variable {p : Program} {l : Launch} {e : Env} {R : Room} {s : State} {m : MethodId} {args : Array Value} {below : List Frame} {meth : Method} {c : Code} {H : Heap} {locs : List Loc} {cells slots mc ms : Nat} {Q : State → Prop}
variable {E : Ev} {a b o : Nat} {σ τ : Mem} {w : Int64} {cc : ByteArray} {nL : Nat} {own : String} {rt : Option FieldType} {pc : Nat} {ls : Array Slot} {rest : List Value}
theorem z_run {A1 : Nat → Prop} {Qc : State → Outcome → State → Prop} (hS : va_S (An s) s.heap H locs) (hA : ∀ q, A1 q → s.heap.size ≤ q) {st : List Value} (hrun : va_Run p l e R s m args below meth c H locs cells slots mc ms (F0 m pc ls st) rest Qc A1) {rv : Option Value} (hQ : ∀ st₀ ot t, Qc st₀ ot t → ot = .returned rv ∧ va_F A1 st₀ t)
    (kk : ∀ (st₀ t : State) (H1 : Heap) (locs1 : List Loc), Qc st₀ (.returned rv) t → t.heap = H1 → H.size ≤ H1.size → (∀ q, q < H.size → ¬ A1 q → H1[q]? = H[q]?) → va_S (An s) s.heap H1 locs1 → W p l e R s m args below meth c H1 locs1 (cells + mc) (slots + ms) Q (F0 m (pc + 3) ls (rv.toList ++ rest))) : W p l e R s m args below meth c H locs cells slots Q (F0 m pc ls st) := by
  intro Tt hT X
  obtain ⟨v, st₀, t, T', L', h0, X', hL, e1, e2, hq, stp⟩ := hrun Tt hT X
  obtain ⟨hv, hz, hk2⟩ := hQ _ _ _ hq
  cases hv
  rw [h0] at hz hk2
  obtain ⟨t2, a1, b1⟩ := kk st₀ t T'.heap (locs ++ L') hq e1.symm (by rw [e1]; exact hz) (fun q h1 h2 => by rw [e1]; exact hk2 q h1 h2) ⟨Nat.le_trans hS.1 (by rw [e1]; exact hz), fun q h1 h2 => by
      rw [e1]
      exact (hk2 q (Nat.lt_of_lt_of_le h1 hS.1) (fun z => absurd (hA q z) (Nat.not_le.mpr h1))).trans (hS.2.1 q h1 h2), fun q hq => by
      rcases List.mem_append.mp hq with h | h
      · exact hS.2.2 q h
      · exact hA _ (hL q h)⟩ T' rfl X'
  exact ⟨t2, stp t2 a1, b1⟩
/-- one of the law's small methods -/
theorem z_wrap {k : Int32} {r : Rx} (C : Cx p l s m args meth c E cc nL own rt) (hN : Nx s) (hE : E.2.1 = s.heap) (hWL : WL E a b o σ τ w H) (hS : va_S (An s) s.heap H locs)
    {y : MethodName} {cb : ByteArray} {ml n : Nat} {ry : Option FieldType} {hh : List (Nat × Nat × Nat × Nat)} {fr lo : Nat} {As : List Value} (hM : Met l y (twc y cb ml ry hh) { frames := fr, cells := mc, slots := ms, locals := lo } (va_Pc As (PrL l E a o σ w)) (QzL E a o k r w) mc ms (Aw a o)) (cw : CWW y cb ml ry hh n) (cs : Cond.static y ∈ tb) {index : Nat} (hlk : Cond.methodLink own index y ∈ tb) (hR : fr + 1 ≤ R.frames ∧ 8 + (ml + 11) + lo ≤ R.locals)
    (hn : As.length = n) (hls : ls.size = nL) (hsum : (rest.map fun v => v.category).sum ≤ 8) (hf : cells + mc ≤ R.cells ∧ slots + ms ≤ R.slots) (hdg : decode cc pc = .ok (.invokestatic index, 3)) {st : List Value} (hst : st = As.reverse ++ rest)
    (kk : ∀ (H1 : Heap) (locs1 : List Loc), WL E a b o r.2 τ (ou r w) H1 → va_S (An s) s.heap H1 locs1 → W p l e R s m args below meth c H1 locs1 (cells + mc) (slots + ms) Q (F0 m (pc + 3) ls (.int k :: rest))) : W p l e R s m args below meth c H locs cells slots Q (F0 m pc ls st) := by
  obtain ⟨hx, hb, hml, hown, hts, hlocks, hr, ⟨hK, hX⟩, hO⟩ := C
  obtain ⟨w1, w2, w3, w4⟩ := cw
  obtain ⟨hW, hV, hOw, hO2, hab, hbo⟩ := hWL
  have ha : s.heap.size ≤ a := by rw [← hE]; exact hW.2
  have hG : GoodIn tb (va_wsS own index y (twc y cb ml ry hh)) := by
    intro z hz
    have hz2 : z ∈ tb := by
      rcases List.mem_append.mp hz with h | h
      · simp only [List.mem_cons, List.not_mem_nil, or_false] at h
        rcases h with rfl | rfl | rfl
        · exact hlk
        · exact cs
        · exact w2
      · rcases List.mem_cons.mp h with rfl | h
        · exact w1
        · exact h
    exact ⟨hz2, tb_good hz2⟩
  have cb0 := vx_cwSW (R := R) (own := own) (index := index) (rm := { frames := fr, cells := mc, slots := ms, locals := lo }) n hts hG rfl rfl rfl ⟨w3.1, w3.2, w4⟩ hR
  refine z_run hS (fun q z => by rcases z with z | z <;> omega) (vx_runSW (p := p) (e := e) (below := below) (meth := meth) (H := H) (locs := locs) (cells := cells) (slots := slots) (g := F0 m pc ls st) (rest := rest) ⟨hx, hb, hml, hown, hts⟩ hM cb0 ⟨PrL.blind _, fun U hU hWm => ⟨rfl, Kn.warm hWm ⟨hK, hX⟩, Nx.moved hWm.alike hN, by rw [hU]; exact hW, by rw [hU]; exact hOw, by rw [hU]; exact hO2, by omega⟩⟩ rfl hn hls hst (lv_room hsum) hdg hf) (rv := some (.int k)) (fun st₀ ot t hq => ⟨hq.1, hq.2.2.2⟩) (fun st₀ t H1 locs1 hq ht hz hfr hS1 => ?_)
  refine kk H1 locs1 ⟨by rw [← ht]; exact hq.2.1, hV.keep (fun q h0 h1 h2 => hfr q h0 (fun z => ?_)), by rw [← ht]; exact hq.2.2.1, hO2.keep hz (fun q h1 => hfr q (Nat.lt_of_lt_of_le h1 hO2.1) (fun z => ?_)), hab, hbo⟩ hS1
  · have h1 : b ≤ q := h1
    have h2 : q < b + 18 := h2
    rcases z with z | z <;> omega
  · rw [hE] at h1
    rcases z with z | z <;> omega
/-- a method of the class that doesn't throw -/
theorem z_callX (C : Cx p l s m args meth c E cc nL own rt) (hE : E.2.1 = s.heap) (hWL : WL E a b o σ τ w H) (hS : va_S (An s) s.heap H locs)
    {y : MethodName} {cb : ByteArray} {ml n : Nat} {ry : Option FieldType} {fr lo : Nat} {As : List Value} {rv : Option Value} {σ' : Mem} (hM : Met l y (tw y cb ml ry) { frames := fr, cells := 0, slots := 0, locals := lo } (va_Pc (.ref (a + 0) :: As) (Pr l E (LC E a) σ)) (Qz E (LC E a) rv σ') 0 0 (La (LC E a))) (cw : CW y cb ml ry n) (cv : CV y) (hCn : y.cls = RX11) {index : Nat} (hlk : Cond.methodLink own index y ∈ tb) (hR : fr + 1 ≤ R.frames ∧ 8 + (ml + 11) + lo ≤ R.locals)
    (hn : As.length = n) (hls : ls.size = nL) (hsum : (rest.map fun v => v.category).sum ≤ 8) (hf : cells ≤ R.cells ∧ slots ≤ R.slots) (hdg : decode cc pc = .ok (.invokevirtual index, 3)) {st : List Value} (hst : st = As.reverse ++ .ref (a + 0) :: rest)
    (kk : ∀ (H1 : Heap) (locs1 : List Loc), WL E a b o σ' τ w H1 → va_S (An s) s.heap H1 locs1 → W p l e R s m args below meth c H1 locs1 cells slots Q (F0 m (pc + 3) ls (rv.toList ++ rest))) : W p l e R s m args below meth c H locs cells slots Q (F0 m pc ls st) := by
  obtain ⟨hx, hb, hml, hown, hts, hlocks, hr, ⟨hK, hX⟩, hO⟩ := C
  obtain ⟨w1, w2, w3, w4⟩ := cw
  obtain ⟨hW, hV, hOw, hO2, hab, hbo⟩ := hWL
  have ha : s.heap.size ≤ a := by rw [← hE]; exact hW.2
  have cb0 : CallB R s args own index y cb ml ry (tw y cb ml ry) { frames := fr, cells := 0, slots := 0, locals := lo } 0 0 n := callB_of n hts (tw_good w1) rfl rfl rfl (hts _ w2) (hts _ hlk) ⟨w3.1, w3.2, w4⟩ hR
  have hrc := va_recv hK hW.1 (ci := 11) (q0 := 0) rfl (by rw [wl_at (L := LC E a) (kdlt kd0 (by decide)), ccX11 kd0])
  refine z_run hS (fun q z => Nat.le_trans ha z.1) (va_runV (C := y.cls) (p := p) (e := e) (below := below) (meth := meth) (H := H) (locs := locs) (cells := cells) (slots := slots) (g := F0 m pc ls st) (rest := rest) ⟨hx, hb, hml, hown, hts⟩ hM ⟨cb0, hts _ cv.1, hts _ cv.2⟩ ⟨Pr.blind _, by rw [hCn]; exact hrc, fun U hU hWm => ⟨rfl, Kn.warm hWm ⟨hK, hX⟩, by rw [hU]; exact hW, by rw [hU]; exact hO2⟩⟩ rfl hn hls hst (lv_room hsum) hdg hf) (rv := rv) (fun st₀ ot t hq => ⟨hq.1, hq.2.2⟩) (fun st₀ t H1 locs1 hq ht hz hfr hS1 => ?_)
  refine kk H1 locs1 ⟨by rw [← ht]; exact hq.2.1, hV.keep (fun q h0 h1 h2 => hfr q h0 (fun z => ?_)), hOw.kept (hfr o hOw.lt (fun z => ?_)), hO2.keep hz (fun q h1 => hfr q (Nat.lt_of_lt_of_le h1 hO2.1) (fun z => ?_)), hab, hbo⟩ hS1
  · have h1 : b ≤ q := h1
    have z2 : q < a + 384 := z.2
    omega
  · have z2 : o < a + 384 := z.2
    omega
  · rw [hE] at h1
    have z1 : a ≤ q := z.1
    omega
/-- a method of the reference -/
theorem z_callM (C : Cx p l s m args meth c E cc nL own rt) (hE : E.2.1 = s.heap) (hWL : WL E a b o σ τ w H) (hS : va_S (An s) s.heap H locs)
    {y : MethodName} {cb : ByteArray} {ml n : Nat} {ry : Option FieldType} {fr lo : Nat} {As : List Value} {rv : Option Value} {τ' : Mem} (hM : Met l y (tw y cb ml ry) { frames := fr, cells := 0, slots := 0, locals := lo } (va_Pc (.ref (b + 0) :: As) (Pr l E (LM E b) τ)) (Qz E (LM E b) rv τ') 0 0 (La (LM E b))) (cw : CW y cb ml ry n) (cv : CV y) (hCn : y.cls = RX12) {index : Nat} (hlk : Cond.methodLink own index y ∈ tb) (hR : fr + 1 ≤ R.frames ∧ 8 + (ml + 11) + lo ≤ R.locals)
    (hn : As.length = n) (hls : ls.size = nL) (hsum : (rest.map fun v => v.category).sum ≤ 8) (hf : cells ≤ R.cells ∧ slots ≤ R.slots) (hdg : decode cc pc = .ok (.invokevirtual index, 3)) {st : List Value} (hst : st = As.reverse ++ .ref (b + 0) :: rest)
    (kk : ∀ (H1 : Heap) (locs1 : List Loc), WL E a b o σ τ' w H1 → va_S (An s) s.heap H1 locs1 → W p l e R s m args below meth c H1 locs1 cells slots Q (F0 m (pc + 3) ls (rv.toList ++ rest))) : W p l e R s m args below meth c H locs cells slots Q (F0 m pc ls st) := by
  obtain ⟨hx, hb, hml, hown, hts, hlocks, hr, ⟨hK, hX⟩, hO⟩ := C
  obtain ⟨w1, w2, w3, w4⟩ := cw
  obtain ⟨hW, hV, hOw, hO2, hab, hbo⟩ := hWL
  have ha : s.heap.size ≤ b := by rw [← hE]; exact hV.2
  have cb0 : CallB R s args own index y cb ml ry (tw y cb ml ry) { frames := fr, cells := 0, slots := 0, locals := lo } 0 0 n := callB_of n hts (tw_good w1) rfl rfl rfl (hts _ w2) (hts _ hlk) ⟨w3.1, w3.2, w4⟩ hR
  have hrc := va_recv hK hV.1 (ci := 12) (q0 := 0) rfl (by rw [wl_at (L := LM E b) (show 0 < 18 by decide), cm0])
  refine z_run hS (fun q z => Nat.le_trans ha z.1) (va_runV (C := y.cls) (p := p) (e := e) (below := below) (meth := meth) (H := H) (locs := locs) (cells := cells) (slots := slots) (g := F0 m pc ls st) (rest := rest) ⟨hx, hb, hml, hown, hts⟩ hM ⟨cb0, hts _ cv.1, hts _ cv.2⟩ ⟨Pr.blind _, by rw [hCn]; exact hrc, fun U hU hWm => ⟨rfl, Kn.warm hWm ⟨hK, hX⟩, by rw [hU]; exact hV, by rw [hU]; exact hO2⟩⟩ rfl hn hls hst (lv_room hsum) hdg hf) (rv := rv) (fun st₀ ot t hq => ⟨hq.1, hq.2.2⟩) (fun st₀ t H1 locs1 hq ht hz hfr hS1 => ?_)
  refine kk H1 locs1 ⟨hW.keep (fun q h0 h1 h2 => hfr q h0 (fun z => ?_)), by rw [← ht]; exact hq.2.1, hOw.kept (hfr o hOw.lt (fun z => ?_)), hO2.keep hz (fun q h1 => hfr q (Nat.lt_of_lt_of_le h1 hO2.1) (fun z => ?_)), hab, hbo⟩ hS1
  · have h2 : q < a + 384 := h2
    have z1 : b ≤ q := z.1
    omega
  · have z2 : o < b + 18 := z.2
    omega
  · rw [hE] at h1
    have z1 : b ≤ q := z.1
    omega
theorem z_lald (C : Cx p l s m args meth c E cc nL own rt) (hOw : Ow E o w H) (hdg : decode cc pc = .ok (.laload, 1)) (kk : W p l e R s m args below meth c H locs cells slots Q (F0 m (pc + 1) ls (.long w :: rest))) : W p l e R s m args below meth c H locs cells slots Q (F0 m pc ls (.int 0 :: .ref o :: rest)) := by
  obtain ⟨hx, hb, hml, hown, hts, hlocks, hr, ⟨hK, hX⟩, hO⟩ := C
  obtain ⟨f, rfl, hat⟩ := hOw
  exact va_lald (D := E.1) (cl := vwCl) (ws := [(o, .inl (E.2.2.2.2 4, 1, .inr (.inl f)))]) hx hb hK (fun k q hk => by
    match k, hk with
    | 0, hk => cases hk; exact hat
    | k + 1, hk => simp at hk) 0 4 rfl rfl (i := 0) (fun z => by rcases z with z | z <;> revert z <;> decide) hdg kk
end RowsZ
def Sim0 (Rel : Mem → Mem → Prop) : Prop := ∀ (σ τ : Mem) (x1 : Int32) (x2 : Int32) (x3 : Int32) (x4 : Int32) (x5 : Int32), Rel σ τ → ∃ (r : Rx) (q : Int32 × Mem) (k : Int32), fX11_append 0 x1 x2 x3 x4 x5 σ = some r ∧ fX12_append x1 x2 x3 x4 x5 τ = some q ∧ ((∃ v, r.1 = .inr v ∧ k = 0) ∨ (r.1 = .inl 0 ∧ k = 1)) ∧ (∀ v, r.1 = .inr v → q.1 = v) ∧ q.2 0 0 = k ∧ Rel r.2 q.2
set_option maxRecDepth 100000 in
set_option maxHeartbeats 4000000 in
theorem lc_0 {p : Program} {l : Launch} {e : Env} {s : State} {m : MethodId} {args : Array Value} {below : List Frame} {meth : Method} {c : Code} {E : Ev} {a b o b0 N : Nat} {xs : Nat → Int32} {Q : State → Prop} {Rel : Mem → Mem → Prop} (S : Sim0 Rel) (C : Cx p l s m args meth c E cL_law 7 RL (some .boolean)) (hN : Nx s) (hE : E.2.1 = s.heap) (hX : va_X b0 N xs s s.heap) (hbl : b0 < s.heap.size) {x4 : Int32} (hin : ∀ j : Nat, j < 6 → vp_in (x4 + Int32.ofNat j) N) {σ τ : Mem} {w : Int64} {H : Heap} {locs : List Loc} {cells slots : Nat} {ls : Array Slot} (hcs : cells + 4 ≤ 601024 ∧ slots + 24 ≤ 7293034) (hrel : Rel σ τ) (hWL : WL E a b o σ τ w H) (hS : va_S (An s) s.heap H locs) (hl : lv_has ls 7 [(0, .ref b0), (1, .ref (a + 0)), (2, .ref (b + 0)), (3, .ref o), (4, .int x4)]) (hend : ∀ (σ τ : Mem) (w : Int64) (H : Heap) (locs : List Loc) (ls : Array Slot), Rel σ τ → WL E a b o σ τ w H → va_S (An s) s.heap H locs → lv_has ls 7 [(0, .ref b0), (1, .ref (a + 0)), (2, .ref (b + 0)), (3, .ref o), (4, .int x4)] → W p l e room_1 s m args below meth c H locs (cells + 4) (slots + 24) Q (F0 m 2459 ls [])) : W p l e room_1 s m args below meth c H locs cells slots Q (F0 m 248 ls []) := by
  have hx0 := C.1
  have hb := C.2.1
  have hbA : ¬ An s b0 := Nat.not_le.mpr hbl
  obtain ⟨r, q, k, hr, hq, hk, hv, ht, hrel⟩ := S σ τ (xs (x4 + (1 : Int32)).toNatClampNeg) (xs (x4 + (2 : Int32)).toNatClampNeg) (xs (x4 + (3 : Int32)).toNatClampNeg) (xs (x4 + (4 : Int32)).toNatClampNeg) (xs (x4 + (5 : Int32)).toNatClampNeg) hrel
  refine lv_aload_n hx0 hb dL_law_248 rfl (lv_at hl 1 rfl) ?_
  refine lv_aload_n hx0 hb dL_law_249 rfl (lv_at hl 0 rfl) ?_
  refine lv_iload hx0 hb dL_law_250 (lv_at hl 4 rfl) ?_
  refine lv_iconst (v := (1 : Int32)) hx0 hb dL_law_252 (by decide) ?_
  refine lv_iadd hx0 hb dL_law_253 ?_
  refine va_sld hx0 hb hX hbl hbA hS (hin 1 (by decide)) dL_law_254 ?_
  refine lv_aload_n hx0 hb dL_law_255 rfl (lv_at hl 0 rfl) ?_
  refine lv_iload hx0 hb dL_law_256 (lv_at hl 4 rfl) ?_
  refine lv_iconst (v := (2 : Int32)) hx0 hb dL_law_258 (by decide) ?_
  refine lv_iadd hx0 hb dL_law_259 ?_
  refine va_sld hx0 hb hX hbl hbA hS (hin 2 (by decide)) dL_law_260 ?_
  refine lv_aload_n hx0 hb dL_law_261 rfl (lv_at hl 0 rfl) ?_
  refine lv_iload hx0 hb dL_law_262 (lv_at hl 4 rfl) ?_
  refine lv_iconst (v := (3 : Int32)) hx0 hb dL_law_264 (by decide) ?_
  refine lv_iadd hx0 hb dL_law_265 ?_
  refine va_sld hx0 hb hX hbl hbA hS (hin 3 (by decide)) dL_law_266 ?_
  refine lv_aload_n hx0 hb dL_law_267 rfl (lv_at hl 0 rfl) ?_
  refine lv_iload hx0 hb dL_law_268 (lv_at hl 4 rfl) ?_
  refine lv_iconst (v := (4 : Int32)) hx0 hb dL_law_270 (by decide) ?_
  refine lv_iadd hx0 hb dL_law_271 ?_
  refine va_sld hx0 hb hX hbl hbA hS (hin 4 (by decide)) dL_law_272 ?_
  refine lv_aload_n hx0 hb dL_law_273 rfl (lv_at hl 0 rfl) ?_
  refine lv_iload hx0 hb dL_law_274 (lv_at hl 4 rfl) ?_
  refine lv_iconst (v := (5 : Int32)) hx0 hb dL_law_276 (by decide) ?_
  refine lv_iadd hx0 hb dL_law_277 ?_
  refine va_sld hx0 hb hX hbl hbA hS (hin 5 (by decide)) dL_law_278 ?_
  refine lv_aload_n hx0 hb dL_law_279 rfl (lv_at hl 3 rfl) ?_
  refine z_wrap (As := [.ref (a + 0), .int (xs (x4 + (1 : Int32)).toNatClampNeg), .int (xs (x4 + (2 : Int32)).toNatClampNeg), .int (xs (x4 + (3 : Int32)).toNatClampNeg), .int (xs (x4 + (4 : Int32)).toNatClampNeg), .int (xs (x4 + (5 : Int32)).toNatClampNeg), .ref o]) (rest := []) C hN hE hWL hS (mL_append (xs (x4 + (1 : Int32)).toNatClampNeg) (xs (x4 + (2 : Int32)).toNatClampNeg) (xs (x4 + (3 : Int32)).toNatClampNeg) (xs (x4 + (4 : Int32)).toNatClampNeg) (xs (x4 + (5 : Int32)).toNatClampNeg) σ r hr w k hk) cwL_append csL_append mlL_126 ⟨by decide, by decide⟩ rfl hl.1 (Nat.le_of_ble_eq_true rfl) ⟨Nat.le_trans (Nat.add_le_add_left (show 1 ≤ 4 by decide) _) hcs.1, Nat.le_trans (Nat.add_le_add_left (show 6 ≤ 24 by decide) _) hcs.2⟩ dL_law_280 rfl (fun H locs hWL hS => ?_)
  refine W.widen (k := cells + 4) (n := slots + 24) (Nat.add_le_add_left (by decide) _) (Nat.add_le_add_left (by decide) _) ?_
  refine lv_istore (lv' := [(5, .int k), (0, .ref b0), (1, .ref (a + 0)), (2, .ref (b + 0)), (3, .ref o), (4, .int x4)]) hx0 hb dL_law_283 hl (by decide) rfl (fun ls hl => ?_)
  refine lv_aload_n hx0 hb dL_law_285 rfl (lv_at hl 3 rfl) ?_
  refine lv_aload_n hx0 hb dL_law_286 rfl (lv_at hl 1 rfl) ?_
  refine lv_iload hx0 hb dL_law_287 (lv_at hl 5 rfl) ?_
  refine lv_iconst (v := (1 : Int32)) hx0 hb dL_law_289 (by decide) ?_
  refine lv_iadd hx0 hb dL_law_290 ?_
  refine va_sld hx0 hb hX hbl hbA hS (hin 1 (by decide)) dL_law_291 ?_
  refine lv_aload_n hx0 hb dL_law_292 rfl (lv_at hl 1 rfl) ?_
  refine lv_iload hx0 hb dL_law_293 (lv_at hl 5 rfl) ?_
  refine lv_iconst (v := (2 : Int32)) hx0 hb dL_law_295 (by decide) ?_
  refine lv_iadd hx0 hb dL_law_296 ?_
  refine va_sld hx0 hb hX hbl hbA hS (hin 2 (by decide)) dL_law_297 ?_
  refine lv_aload_n hx0 hb dL_law_298 rfl (lv_at hl 1 rfl) ?_
  refine lv_iload hx0 hb dL_law_299 (lv_at hl 5 rfl) ?_
  refine lv_iconst (v := (3 : Int32)) hx0 hb dL_law_301 (by decide) ?_
  refine lv_iadd hx0 hb dL_law_302 ?_
  refine va_sld hx0 hb hX hbl hbA hS (hin 3 (by decide)) dL_law_303 ?_
  refine lv_aload_n hx0 hb dL_law_304 rfl (lv_at hl 1 rfl) ?_
  refine lv_iload hx0 hb dL_law_305 (lv_at hl 5 rfl) ?_
  refine lv_iconst (v := (4 : Int32)) hx0 hb dL_law_307 (by decide) ?_
  refine lv_iadd hx0 hb dL_law_308 ?_
  refine va_sld hx0 hb hX hbl hbA hS (hin 4 (by decide)) dL_law_309 ?_
  refine lv_aload_n hx0 hb dL_law_310 rfl (lv_at hl 1 rfl) ?_
  refine lv_iload hx0 hb dL_law_311 (lv_at hl 5 rfl) ?_
  refine lv_iconst (v := (5 : Int32)) hx0 hb dL_law_313 (by decide) ?_
  refine lv_iadd hx0 hb dL_law_314 ?_
  refine va_sld hx0 hb hX hbl hbA hS (hin 5 (by decide)) dL_law_315 ?_
  refine z_callM (As := [.int (xs (x4 + (1 : Int32)).toNatClampNeg), .int (xs (x4 + (2 : Int32)).toNatClampNeg), .int (xs (x4 + (3 : Int32)).toNatClampNeg), .int (xs (x4 + (4 : Int32)).toNatClampNeg), .int (xs (x4 + (5 : Int32)).toNatClampNeg)]) (rest := []) C hE hWL hS (mX12_append (xs (x4 + (1 : Int32)).toNatClampNeg) (xs (x4 + (2 : Int32)).toNatClampNeg) (xs (x4 + (3 : Int32)).toNatClampNeg) (xs (x4 + (4 : Int32)).toNatClampNeg) (xs (x4 + (5 : Int32)).toNatClampNeg) τ q hq) cwX12_append cvX12_append rfl mlL_131 ⟨by decide, by decide⟩ rfl hl.1 (Nat.le_of_ble_eq_true rfl) ⟨hcs.1, hcs.2⟩ dL_law_316 rfl (fun H locs hWL hS => ?_)
  refine lv_istore (lv' := [(6, .int q.1), (5, .int k), (0, .ref b0), (1, .ref (a + 0)), (2, .ref (b + 0)), (3, .ref o), (4, .int x4)]) hx0 hb dL_law_319 hl (by decide) rfl (fun ls hl => ?_)
  refine lv_aload_n hx0 hb dL_law_321 rfl (lv_at hl 4 rfl) ?_
  refine z_callM (As := []) (rest := []) C hE hWL hS (mX12_thrown q.2 (q.2 0 0) rfl) cwX12_thrown cvX12_thrown rfl mlL_132 ⟨by decide, by decide⟩ rfl hl.1 (Nat.le_of_ble_eq_true rfl) ⟨hcs.1, hcs.2⟩ dL_law_322 rfl (fun H locs hWL hS => ?_)
  refine lv_iload hx0 hb dL_law_325 (lv_at hl 1 rfl) ?_
  refine lv_icmp_eq (tgt := 332) hx0 hb dL_law_327 (by decide) (fun _ => ?_) (fun z => absurd ht z)
  refine lv_iload hx0 hb dL_law_332 (lv_at hl 1 rfl) ?_
  refine lv_if_ne (tgt := 349) hx0 hb dL_law_334 (by decide) (fun _ => ?_) (fun z => ?_)
  · refine lv_goto (tgt := 2459) hx0 hb dL_law_349 (by decide) ?_
    exact hend _ _ _ _ _ _ hrel hWL hS (lv_sub hl [2, 3, 4, 5, 6] rfl)
  obtain ⟨v9, e9⟩ : ∃ v, r.1 = .inr v := by
    rcases hk with ⟨v, e, _⟩ | ⟨_, e⟩
    · exact ⟨v, e⟩
    · rw [e] at z; exact absurd z (by decide)
  have e8 : ou r w = q.1.toInt64 := by unfold ou; rw [e9, hv v9 e9]
  refine lv_aload_n hx0 hb dL_law_337 rfl (lv_at hl 5 rfl) ?_
  refine lv_iconst (v := (0 : Int32)) hx0 hb dL_law_338 (by decide) ?_
  refine z_lald C hWL.2.2.1 dL_law_339 ?_
  refine lv_iload hx0 hb dL_law_340 (lv_at hl 0 rfl) ?_
  refine lv_i2l hx0 hb dL_law_342 rfl ?_
  refine W.lcmp hx0 hb dL_law_343 ?_
  rw [e8, lcmp0]
  refine lv_if_eq (tgt := 349) hx0 hb dL_law_344 (by decide) (fun _ => ?_) (fun z => absurd rfl z)
  refine lv_goto (tgt := 2459) hx0 hb dL_law_349 (by decide) ?_
  exact hend _ _ _ _ _ _ hrel hWL hS (lv_sub hl [2, 3, 4, 5, 6] rfl)
def Sim1 (Rel : Mem → Mem → Prop) : Prop := ∀ (σ τ : Mem) (x1 : Int32), Rel σ τ → ∃ (r : Rx) (q : Int32 × Mem) (k : Int32), fX11_truncate 0 x1 σ = some r ∧ fX12_truncate x1 τ = some q ∧ ((∃ v, r.1 = .inr v ∧ k = 0) ∨ (r.1 = .inl 1 ∧ k = 1)) ∧ (∀ v, r.1 = .inr v → q.1 = v) ∧ q.2 0 0 = k ∧ Rel r.2 q.2
set_option maxRecDepth 100000 in
set_option maxHeartbeats 4000000 in
theorem lc_1 {p : Program} {l : Launch} {e : Env} {s : State} {m : MethodId} {args : Array Value} {below : List Frame} {meth : Method} {c : Code} {E : Ev} {a b o b0 N : Nat} {xs : Nat → Int32} {Q : State → Prop} {Rel : Mem → Mem → Prop} (S : Sim1 Rel) (C : Cx p l s m args meth c E cL_law 7 RL (some .boolean)) (hN : Nx s) (hE : E.2.1 = s.heap) (hX : va_X b0 N xs s s.heap) (hbl : b0 < s.heap.size) {x4 : Int32} (hin : ∀ j : Nat, j < 6 → vp_in (x4 + Int32.ofNat j) N) {σ τ : Mem} {w : Int64} {H : Heap} {locs : List Loc} {cells slots : Nat} {ls : Array Slot} (hcs : cells + 4 ≤ 601024 ∧ slots + 24 ≤ 7293034) (hrel : Rel σ τ) (hWL : WL E a b o σ τ w H) (hS : va_S (An s) s.heap H locs) (hl : lv_has ls 7 [(0, .ref b0), (1, .ref (a + 0)), (2, .ref (b + 0)), (3, .ref o), (4, .int x4)]) (hend : ∀ (σ τ : Mem) (w : Int64) (H : Heap) (locs : List Loc) (ls : Array Slot), Rel σ τ → WL E a b o σ τ w H → va_S (An s) s.heap H locs → lv_has ls 7 [(0, .ref b0), (1, .ref (a + 0)), (2, .ref (b + 0)), (3, .ref o), (4, .int x4)] → W p l e room_1 s m args below meth c H locs (cells + 4) (slots + 24) Q (F0 m 2459 ls [])) : W p l e room_1 s m args below meth c H locs cells slots Q (F0 m 352 ls []) := by
  have hx0 := C.1
  have hb := C.2.1
  have hbA : ¬ An s b0 := Nat.not_le.mpr hbl
  obtain ⟨r, q, k, hr, hq, hk, hv, ht, hrel⟩ := S σ τ (xs (x4 + (1 : Int32)).toNatClampNeg) hrel
  refine lv_aload_n hx0 hb dL_law_352 rfl (lv_at hl 1 rfl) ?_
  refine lv_aload_n hx0 hb dL_law_353 rfl (lv_at hl 0 rfl) ?_
  refine lv_iload hx0 hb dL_law_354 (lv_at hl 4 rfl) ?_
  refine lv_iconst (v := (1 : Int32)) hx0 hb dL_law_356 (by decide) ?_
  refine lv_iadd hx0 hb dL_law_357 ?_
  refine va_sld hx0 hb hX hbl hbA hS (hin 1 (by decide)) dL_law_358 ?_
  refine lv_aload_n hx0 hb dL_law_359 rfl (lv_at hl 3 rfl) ?_
  refine z_wrap (As := [.ref (a + 0), .int (xs (x4 + (1 : Int32)).toNatClampNeg), .ref o]) (rest := []) C hN hE hWL hS (mL_truncate (xs (x4 + (1 : Int32)).toNatClampNeg) σ r hr w k hk) cwL_truncate csL_truncate mlL_135 ⟨by decide, by decide⟩ rfl hl.1 (Nat.le_of_ble_eq_true rfl) ⟨Nat.le_trans (Nat.add_le_add_left (show 1 ≤ 4 by decide) _) hcs.1, Nat.le_trans (Nat.add_le_add_left (show 6 ≤ 24 by decide) _) hcs.2⟩ dL_law_360 rfl (fun H locs hWL hS => ?_)
  refine W.widen (k := cells + 4) (n := slots + 24) (Nat.add_le_add_left (by decide) _) (Nat.add_le_add_left (by decide) _) ?_
  refine lv_istore (lv' := [(5, .int k), (0, .ref b0), (1, .ref (a + 0)), (2, .ref (b + 0)), (3, .ref o), (4, .int x4)]) hx0 hb dL_law_363 hl (by decide) rfl (fun ls hl => ?_)
  refine lv_aload_n hx0 hb dL_law_365 rfl (lv_at hl 3 rfl) ?_
  refine lv_aload_n hx0 hb dL_law_366 rfl (lv_at hl 1 rfl) ?_
  refine lv_iload hx0 hb dL_law_367 (lv_at hl 5 rfl) ?_
  refine lv_iconst (v := (1 : Int32)) hx0 hb dL_law_369 (by decide) ?_
  refine lv_iadd hx0 hb dL_law_370 ?_
  refine va_sld hx0 hb hX hbl hbA hS (hin 1 (by decide)) dL_law_371 ?_
  refine z_callM (As := [.int (xs (x4 + (1 : Int32)).toNatClampNeg)]) (rest := []) C hE hWL hS (mX12_truncate (xs (x4 + (1 : Int32)).toNatClampNeg) τ q hq) cwX12_truncate cvX12_truncate rfl mlL_138 ⟨by decide, by decide⟩ rfl hl.1 (Nat.le_of_ble_eq_true rfl) ⟨hcs.1, hcs.2⟩ dL_law_372 rfl (fun H locs hWL hS => ?_)
  refine lv_istore (lv' := [(6, .int q.1), (5, .int k), (0, .ref b0), (1, .ref (a + 0)), (2, .ref (b + 0)), (3, .ref o), (4, .int x4)]) hx0 hb dL_law_375 hl (by decide) rfl (fun ls hl => ?_)
  refine lv_aload_n hx0 hb dL_law_377 rfl (lv_at hl 4 rfl) ?_
  refine z_callM (As := []) (rest := []) C hE hWL hS (mX12_thrown q.2 (q.2 0 0) rfl) cwX12_thrown cvX12_thrown rfl mlL_132 ⟨by decide, by decide⟩ rfl hl.1 (Nat.le_of_ble_eq_true rfl) ⟨hcs.1, hcs.2⟩ dL_law_378 rfl (fun H locs hWL hS => ?_)
  refine lv_iload hx0 hb dL_law_381 (lv_at hl 1 rfl) ?_
  refine lv_icmp_eq (tgt := 388) hx0 hb dL_law_383 (by decide) (fun _ => ?_) (fun z => absurd ht z)
  refine lv_iload hx0 hb dL_law_388 (lv_at hl 1 rfl) ?_
  refine lv_if_ne (tgt := 405) hx0 hb dL_law_390 (by decide) (fun _ => ?_) (fun z => ?_)
  · refine lv_goto (tgt := 2459) hx0 hb dL_law_405 (by decide) ?_
    exact hend _ _ _ _ _ _ hrel hWL hS (lv_sub hl [2, 3, 4, 5, 6] rfl)
  obtain ⟨v9, e9⟩ : ∃ v, r.1 = .inr v := by
    rcases hk with ⟨v, e, _⟩ | ⟨_, e⟩
    · exact ⟨v, e⟩
    · rw [e] at z; exact absurd z (by decide)
  have e8 : ou r w = q.1.toInt64 := by unfold ou; rw [e9, hv v9 e9]
  refine lv_aload_n hx0 hb dL_law_393 rfl (lv_at hl 5 rfl) ?_
  refine lv_iconst (v := (0 : Int32)) hx0 hb dL_law_394 (by decide) ?_
  refine z_lald C hWL.2.2.1 dL_law_395 ?_
  refine lv_iload hx0 hb dL_law_396 (lv_at hl 0 rfl) ?_
  refine lv_i2l hx0 hb dL_law_398 rfl ?_
  refine W.lcmp hx0 hb dL_law_399 ?_
  rw [e8, lcmp0]
  refine lv_if_eq (tgt := 405) hx0 hb dL_law_400 (by decide) (fun _ => ?_) (fun z => absurd rfl z)
  refine lv_goto (tgt := 2459) hx0 hb dL_law_405 (by decide) ?_
  exact hend _ _ _ _ _ _ hrel hWL hS (lv_sub hl [2, 3, 4, 5, 6] rfl)
def Sim2 (Rel : Mem → Mem → Prop) : Prop := ∀ (σ τ : Mem), Rel σ τ → ∃ (v : Int32) (σ' τ' : Mem), fX11_errorPosition 0 σ = some (v, σ') ∧ fX12_errorPosition τ = some (v, τ') ∧ Rel σ' τ'
set_option maxRecDepth 100000 in
set_option maxHeartbeats 4000000 in
theorem lc_2 {p : Program} {l : Launch} {e : Env} {s : State} {m : MethodId} {args : Array Value} {below : List Frame} {meth : Method} {c : Code} {E : Ev} {a b o b0 N : Nat} {xs : Nat → Int32} {Q : State → Prop} {Rel : Mem → Mem → Prop} (S : Sim2 Rel) (C : Cx p l s m args meth c E cL_law 7 RL (some .boolean)) (hN : Nx s) (hE : E.2.1 = s.heap) (hX : va_X b0 N xs s s.heap) (hbl : b0 < s.heap.size) {x4 : Int32} (hin : ∀ j : Nat, j < 6 → vp_in (x4 + Int32.ofNat j) N) {σ τ : Mem} {w : Int64} {H : Heap} {locs : List Loc} {cells slots : Nat} {ls : Array Slot} (hcs : cells + 4 ≤ 601024 ∧ slots + 24 ≤ 7293034) (hrel : Rel σ τ) (hWL : WL E a b o σ τ w H) (hS : va_S (An s) s.heap H locs) (hl : lv_has ls 7 [(0, .ref b0), (1, .ref (a + 0)), (2, .ref (b + 0)), (3, .ref o), (4, .int x4)]) (hend : ∀ (σ τ : Mem) (w : Int64) (H : Heap) (locs : List Loc) (ls : Array Slot), Rel σ τ → WL E a b o σ τ w H → va_S (An s) s.heap H locs → lv_has ls 7 [(0, .ref b0), (1, .ref (a + 0)), (2, .ref (b + 0)), (3, .ref o), (4, .int x4)] → W p l e room_1 s m args below meth c H locs (cells + 4) (slots + 24) Q (F0 m 2459 ls [])) : W p l e room_1 s m args below meth c H locs cells slots Q (F0 m 408 ls []) := by
  have hx0 := C.1
  have hb := C.2.1
  have hbA : ¬ An s b0 := Nat.not_le.mpr hbl
  obtain ⟨v, σ1, τ1, hr, hq, hrel⟩ := S σ τ  hrel
  refine lv_aload_n hx0 hb dL_law_408 rfl (lv_at hl 1 rfl) ?_
  refine z_callX (As := []) (rest := []) C hE hWL hS (mX11_errorPosition 0 kd0 σ (v, σ1) hr) cwX11_errorPosition cvX11_errorPosition rfl mlL_139 ⟨by decide, by decide⟩ rfl hl.1 (Nat.le_of_ble_eq_true rfl) ⟨by show cells ≤ 601024; omega, by show slots ≤ 7293034; omega⟩ dL_law_409 rfl (fun H locs hWL hS => ?_)
  refine lv_aload_n hx0 hb dL_law_412 rfl (lv_at hl 2 rfl) ?_
  refine z_callM (As := []) (rest := [.int v]) C hE hWL hS (mX12_errorPosition  τ (v, τ1) hq) cwX12_errorPosition cvX12_errorPosition rfl mlL_142 ⟨by decide, by decide⟩ rfl hl.1 (Nat.le_of_ble_eq_true rfl) ⟨by show cells ≤ 601024; omega, by show slots ≤ 7293034; omega⟩ dL_law_413 rfl (fun H locs hWL hS => ?_)
  refine lv_icmp_eq (tgt := 2459) hx0 hb dL_law_416 (by decide) (fun _ => ?_) (fun z => absurd rfl z)
  refine W.widen (k := cells + 4) (n := slots + 24) (by omega) (by omega) ?_
  exact hend _ _ _ _ _ _ hrel hWL hS (lv_sub hl [0, 1, 2, 3, 4] rfl)
def Sim3 (Rel : Mem → Mem → Prop) : Prop := ∀ (σ τ : Mem), Rel σ τ → ∃ (r : Rx) (q : Int32 × Mem) (k : Int32), fX11_load 0 σ = some r ∧ fX12_load τ = some q ∧ ((∃ v, r.1 = .inr v ∧ k = 0) ∨ (r.1 = .inl 1 ∧ k = 1)) ∧ (∀ v, r.1 = .inr v → q.1 = v) ∧ q.2 0 0 = k ∧ Rel r.2 q.2
set_option maxRecDepth 100000 in
set_option maxHeartbeats 4000000 in
theorem lc_3 {p : Program} {l : Launch} {e : Env} {s : State} {m : MethodId} {args : Array Value} {below : List Frame} {meth : Method} {c : Code} {E : Ev} {a b o b0 N : Nat} {xs : Nat → Int32} {Q : State → Prop} {Rel : Mem → Mem → Prop} (S : Sim3 Rel) (C : Cx p l s m args meth c E cL_law 7 RL (some .boolean)) (hN : Nx s) (hE : E.2.1 = s.heap) (hX : va_X b0 N xs s s.heap) (hbl : b0 < s.heap.size) {x4 : Int32} (hin : ∀ j : Nat, j < 6 → vp_in (x4 + Int32.ofNat j) N) {σ τ : Mem} {w : Int64} {H : Heap} {locs : List Loc} {cells slots : Nat} {ls : Array Slot} (hcs : cells + 4 ≤ 601024 ∧ slots + 24 ≤ 7293034) (hrel : Rel σ τ) (hWL : WL E a b o σ τ w H) (hS : va_S (An s) s.heap H locs) (hl : lv_has ls 7 [(0, .ref b0), (1, .ref (a + 0)), (2, .ref (b + 0)), (3, .ref o), (4, .int x4)]) (hend : ∀ (σ τ : Mem) (w : Int64) (H : Heap) (locs : List Loc) (ls : Array Slot), Rel σ τ → WL E a b o σ τ w H → va_S (An s) s.heap H locs → lv_has ls 7 [(0, .ref b0), (1, .ref (a + 0)), (2, .ref (b + 0)), (3, .ref o), (4, .int x4)] → W p l e room_1 s m args below meth c H locs (cells + 4) (slots + 24) Q (F0 m 2459 ls [])) : W p l e room_1 s m args below meth c H locs cells slots Q (F0 m 421 ls []) := by
  have hx0 := C.1
  have hb := C.2.1
  have hbA : ¬ An s b0 := Nat.not_le.mpr hbl
  obtain ⟨r, q, k, hr, hq, hk, hv, ht, hrel⟩ := S σ τ  hrel
  refine lv_aload_n hx0 hb dL_law_421 rfl (lv_at hl 1 rfl) ?_
  refine lv_aload_n hx0 hb dL_law_422 rfl (lv_at hl 3 rfl) ?_
  refine z_wrap (As := [.ref (a + 0), .ref o]) (rest := []) C hN hE hWL hS (mL_load  σ r hr w k hk) cwL_load csL_load mlL_143 ⟨by decide, by decide⟩ rfl hl.1 (Nat.le_of_ble_eq_true rfl) ⟨Nat.le_trans (Nat.add_le_add_left (show 1 ≤ 4 by decide) _) hcs.1, Nat.le_trans (Nat.add_le_add_left (show 6 ≤ 24 by decide) _) hcs.2⟩ dL_law_423 rfl (fun H locs hWL hS => ?_)
  refine W.widen (k := cells + 4) (n := slots + 24) (Nat.add_le_add_left (by decide) _) (Nat.add_le_add_left (by decide) _) ?_
  refine lv_istore (lv' := [(5, .int k), (0, .ref b0), (1, .ref (a + 0)), (2, .ref (b + 0)), (3, .ref o), (4, .int x4)]) hx0 hb dL_law_426 hl (by decide) rfl (fun ls hl => ?_)
  refine lv_aload_n hx0 hb dL_law_428 rfl (lv_at hl 3 rfl) ?_
  refine z_callM (As := []) (rest := []) C hE hWL hS (mX12_load  τ q hq) cwX12_load cvX12_load rfl mlL_146 ⟨by decide, by decide⟩ rfl hl.1 (Nat.le_of_ble_eq_true rfl) ⟨hcs.1, hcs.2⟩ dL_law_429 rfl (fun H locs hWL hS => ?_)
  refine lv_istore (lv' := [(6, .int q.1), (5, .int k), (0, .ref b0), (1, .ref (a + 0)), (2, .ref (b + 0)), (3, .ref o), (4, .int x4)]) hx0 hb dL_law_432 hl (by decide) rfl (fun ls hl => ?_)
  refine lv_aload_n hx0 hb dL_law_434 rfl (lv_at hl 4 rfl) ?_
  refine z_callM (As := []) (rest := []) C hE hWL hS (mX12_thrown q.2 (q.2 0 0) rfl) cwX12_thrown cvX12_thrown rfl mlL_132 ⟨by decide, by decide⟩ rfl hl.1 (Nat.le_of_ble_eq_true rfl) ⟨hcs.1, hcs.2⟩ dL_law_435 rfl (fun H locs hWL hS => ?_)
  refine lv_iload hx0 hb dL_law_438 (lv_at hl 1 rfl) ?_
  refine lv_icmp_eq (tgt := 445) hx0 hb dL_law_440 (by decide) (fun _ => ?_) (fun z => absurd ht z)
  refine lv_iload hx0 hb dL_law_445 (lv_at hl 1 rfl) ?_
  refine lv_if_ne (tgt := 462) hx0 hb dL_law_447 (by decide) (fun _ => ?_) (fun z => ?_)
  · refine lv_goto (tgt := 2459) hx0 hb dL_law_462 (by decide) ?_
    exact hend _ _ _ _ _ _ hrel hWL hS (lv_sub hl [2, 3, 4, 5, 6] rfl)
  obtain ⟨v9, e9⟩ : ∃ v, r.1 = .inr v := by
    rcases hk with ⟨v, e, _⟩ | ⟨_, e⟩
    · exact ⟨v, e⟩
    · rw [e] at z; exact absurd z (by decide)
  have e8 : ou r w = q.1.toInt64 := by unfold ou; rw [e9, hv v9 e9]
  refine lv_aload_n hx0 hb dL_law_450 rfl (lv_at hl 5 rfl) ?_
  refine lv_iconst (v := (0 : Int32)) hx0 hb dL_law_451 (by decide) ?_
  refine z_lald C hWL.2.2.1 dL_law_452 ?_
  refine lv_iload hx0 hb dL_law_453 (lv_at hl 0 rfl) ?_
  refine lv_i2l hx0 hb dL_law_455 rfl ?_
  refine W.lcmp hx0 hb dL_law_456 ?_
  rw [e8, lcmp0]
  refine lv_if_eq (tgt := 462) hx0 hb dL_law_457 (by decide) (fun _ => ?_) (fun z => absurd rfl z)
  refine lv_goto (tgt := 2459) hx0 hb dL_law_462 (by decide) ?_
  exact hend _ _ _ _ _ _ hrel hWL hS (lv_sub hl [2, 3, 4, 5, 6] rfl)
def Sim4 (Rel : Mem → Mem → Prop) : Prop := ∀ (σ τ : Mem) (x1 : Int32), Rel σ τ → ∃ (r : Rx) (q : Int32 × Mem) (k : Int32), fX11_lose 0 x1 σ = some r ∧ fX12_lose x1 τ = some q ∧ ((∃ v, r.1 = .inr v ∧ k = 0) ∨ (r.1 = .inl 2 ∧ k = 1) ∨ (r.1 = .inl 0 ∧ k = 2)) ∧ (∀ v, r.1 = .inr v → q.1 = v) ∧ q.2 0 0 = k ∧ Rel r.2 q.2
set_option maxRecDepth 100000 in
set_option maxHeartbeats 4000000 in
theorem lc_4 {p : Program} {l : Launch} {e : Env} {s : State} {m : MethodId} {args : Array Value} {below : List Frame} {meth : Method} {c : Code} {E : Ev} {a b o b0 N : Nat} {xs : Nat → Int32} {Q : State → Prop} {Rel : Mem → Mem → Prop} (S : Sim4 Rel) (C : Cx p l s m args meth c E cL_law 7 RL (some .boolean)) (hN : Nx s) (hE : E.2.1 = s.heap) (hX : va_X b0 N xs s s.heap) (hbl : b0 < s.heap.size) {x4 : Int32} (hin : ∀ j : Nat, j < 6 → vp_in (x4 + Int32.ofNat j) N) {σ τ : Mem} {w : Int64} {H : Heap} {locs : List Loc} {cells slots : Nat} {ls : Array Slot} (hcs : cells + 4 ≤ 601024 ∧ slots + 24 ≤ 7293034) (hrel : Rel σ τ) (hWL : WL E a b o σ τ w H) (hS : va_S (An s) s.heap H locs) (hl : lv_has ls 7 [(0, .ref b0), (1, .ref (a + 0)), (2, .ref (b + 0)), (3, .ref o), (4, .int x4)]) (hend : ∀ (σ τ : Mem) (w : Int64) (H : Heap) (locs : List Loc) (ls : Array Slot), Rel σ τ → WL E a b o σ τ w H → va_S (An s) s.heap H locs → lv_has ls 7 [(0, .ref b0), (1, .ref (a + 0)), (2, .ref (b + 0)), (3, .ref o), (4, .int x4)] → W p l e room_1 s m args below meth c H locs (cells + 4) (slots + 24) Q (F0 m 2459 ls [])) : W p l e room_1 s m args below meth c H locs cells slots Q (F0 m 465 ls []) := by
  have hx0 := C.1
  have hb := C.2.1
  have hbA : ¬ An s b0 := Nat.not_le.mpr hbl
  obtain ⟨r, q, k, hr, hq, hk, hv, ht, hrel⟩ := S σ τ (xs (x4 + (1 : Int32)).toNatClampNeg) hrel
  refine lv_aload_n hx0 hb dL_law_465 rfl (lv_at hl 1 rfl) ?_
  refine lv_aload_n hx0 hb dL_law_466 rfl (lv_at hl 0 rfl) ?_
  refine lv_iload hx0 hb dL_law_467 (lv_at hl 4 rfl) ?_
  refine lv_iconst (v := (1 : Int32)) hx0 hb dL_law_469 (by decide) ?_
  refine lv_iadd hx0 hb dL_law_470 ?_
  refine va_sld hx0 hb hX hbl hbA hS (hin 1 (by decide)) dL_law_471 ?_
  refine lv_aload_n hx0 hb dL_law_472 rfl (lv_at hl 3 rfl) ?_
  refine z_wrap (As := [.ref (a + 0), .int (xs (x4 + (1 : Int32)).toNatClampNeg), .ref o]) (rest := []) C hN hE hWL hS (mL_lose (xs (x4 + (1 : Int32)).toNatClampNeg) σ r hr w k hk) cwL_lose csL_lose mlL_147 ⟨by decide, by decide⟩ rfl hl.1 (Nat.le_of_ble_eq_true rfl) ⟨Nat.le_trans (Nat.add_le_add_left (show 2 ≤ 4 by decide) _) hcs.1, Nat.le_trans (Nat.add_le_add_left (show 12 ≤ 24 by decide) _) hcs.2⟩ dL_law_473 rfl (fun H locs hWL hS => ?_)
  refine W.widen (k := cells + 4) (n := slots + 24) (Nat.add_le_add_left (by decide) _) (Nat.add_le_add_left (by decide) _) ?_
  refine lv_istore (lv' := [(5, .int k), (0, .ref b0), (1, .ref (a + 0)), (2, .ref (b + 0)), (3, .ref o), (4, .int x4)]) hx0 hb dL_law_476 hl (by decide) rfl (fun ls hl => ?_)
  refine lv_aload_n hx0 hb dL_law_478 rfl (lv_at hl 3 rfl) ?_
  refine lv_aload_n hx0 hb dL_law_479 rfl (lv_at hl 1 rfl) ?_
  refine lv_iload hx0 hb dL_law_480 (lv_at hl 5 rfl) ?_
  refine lv_iconst (v := (1 : Int32)) hx0 hb dL_law_482 (by decide) ?_
  refine lv_iadd hx0 hb dL_law_483 ?_
  refine va_sld hx0 hb hX hbl hbA hS (hin 1 (by decide)) dL_law_484 ?_
  refine z_callM (As := [.int (xs (x4 + (1 : Int32)).toNatClampNeg)]) (rest := []) C hE hWL hS (mX12_lose (xs (x4 + (1 : Int32)).toNatClampNeg) τ q hq) cwX12_lose cvX12_lose rfl mlL_149 ⟨by decide, by decide⟩ rfl hl.1 (Nat.le_of_ble_eq_true rfl) ⟨hcs.1, hcs.2⟩ dL_law_485 rfl (fun H locs hWL hS => ?_)
  refine lv_istore (lv' := [(6, .int q.1), (5, .int k), (0, .ref b0), (1, .ref (a + 0)), (2, .ref (b + 0)), (3, .ref o), (4, .int x4)]) hx0 hb dL_law_488 hl (by decide) rfl (fun ls hl => ?_)
  refine lv_aload_n hx0 hb dL_law_490 rfl (lv_at hl 4 rfl) ?_
  refine z_callM (As := []) (rest := []) C hE hWL hS (mX12_thrown q.2 (q.2 0 0) rfl) cwX12_thrown cvX12_thrown rfl mlL_132 ⟨by decide, by decide⟩ rfl hl.1 (Nat.le_of_ble_eq_true rfl) ⟨hcs.1, hcs.2⟩ dL_law_491 rfl (fun H locs hWL hS => ?_)
  refine lv_iload hx0 hb dL_law_494 (lv_at hl 1 rfl) ?_
  refine lv_icmp_eq (tgt := 501) hx0 hb dL_law_496 (by decide) (fun _ => ?_) (fun z => absurd ht z)
  refine lv_iload hx0 hb dL_law_501 (lv_at hl 1 rfl) ?_
  refine lv_if_ne (tgt := 518) hx0 hb dL_law_503 (by decide) (fun _ => ?_) (fun z => ?_)
  · refine lv_goto (tgt := 2459) hx0 hb dL_law_518 (by decide) ?_
    exact hend _ _ _ _ _ _ hrel hWL hS (lv_sub hl [2, 3, 4, 5, 6] rfl)
  obtain ⟨v9, e9⟩ : ∃ v, r.1 = .inr v := by
    rcases hk with ⟨v, e, _⟩ | ⟨_, e⟩ | ⟨_, e⟩
    · exact ⟨v, e⟩
    · rw [e] at z; exact absurd z (by decide)
    · rw [e] at z; exact absurd z (by decide)
  have e8 : ou r w = q.1.toInt64 := by unfold ou; rw [e9, hv v9 e9]
  refine lv_aload_n hx0 hb dL_law_506 rfl (lv_at hl 5 rfl) ?_
  refine lv_iconst (v := (0 : Int32)) hx0 hb dL_law_507 (by decide) ?_
  refine z_lald C hWL.2.2.1 dL_law_508 ?_
  refine lv_iload hx0 hb dL_law_509 (lv_at hl 0 rfl) ?_
  refine lv_i2l hx0 hb dL_law_511 rfl ?_
  refine W.lcmp hx0 hb dL_law_512 ?_
  rw [e8, lcmp0]
  refine lv_if_eq (tgt := 518) hx0 hb dL_law_513 (by decide) (fun _ => ?_) (fun z => absurd rfl z)
  refine lv_goto (tgt := 2459) hx0 hb dL_law_518 (by decide) ?_
  exact hend _ _ _ _ _ _ hrel hWL hS (lv_sub hl [2, 3, 4, 5, 6] rfl)
def Sim5 (Rel : Mem → Mem → Prop) : Prop := ∀ (σ τ : Mem) (x1 : Int32), Rel σ τ → ∃ (r : Rx) (q : Int32 × Mem) (k : Int32), fX11_find 0 x1 σ = some r ∧ fX12_find x1 τ = some q ∧ ((∃ v, r.1 = .inr v ∧ k = 0) ∨ (r.1 = .inl 2 ∧ k = 1) ∨ (r.1 = .inl 0 ∧ k = 2)) ∧ (∀ v, r.1 = .inr v → q.1 = v) ∧ q.2 0 0 = k ∧ Rel r.2 q.2
set_option maxRecDepth 100000 in
set_option maxHeartbeats 4000000 in
theorem lc_5 {p : Program} {l : Launch} {e : Env} {s : State} {m : MethodId} {args : Array Value} {below : List Frame} {meth : Method} {c : Code} {E : Ev} {a b o b0 N : Nat} {xs : Nat → Int32} {Q : State → Prop} {Rel : Mem → Mem → Prop} (S : Sim5 Rel) (C : Cx p l s m args meth c E cL_law 7 RL (some .boolean)) (hN : Nx s) (hE : E.2.1 = s.heap) (hX : va_X b0 N xs s s.heap) (hbl : b0 < s.heap.size) {x4 : Int32} (hin : ∀ j : Nat, j < 6 → vp_in (x4 + Int32.ofNat j) N) {σ τ : Mem} {w : Int64} {H : Heap} {locs : List Loc} {cells slots : Nat} {ls : Array Slot} (hcs : cells + 4 ≤ 601024 ∧ slots + 24 ≤ 7293034) (hrel : Rel σ τ) (hWL : WL E a b o σ τ w H) (hS : va_S (An s) s.heap H locs) (hl : lv_has ls 7 [(0, .ref b0), (1, .ref (a + 0)), (2, .ref (b + 0)), (3, .ref o), (4, .int x4)]) (hend : ∀ (σ τ : Mem) (w : Int64) (H : Heap) (locs : List Loc) (ls : Array Slot), Rel σ τ → WL E a b o σ τ w H → va_S (An s) s.heap H locs → lv_has ls 7 [(0, .ref b0), (1, .ref (a + 0)), (2, .ref (b + 0)), (3, .ref o), (4, .int x4)] → W p l e room_1 s m args below meth c H locs (cells + 4) (slots + 24) Q (F0 m 2459 ls [])) : W p l e room_1 s m args below meth c H locs cells slots Q (F0 m 521 ls []) := by
  have hx0 := C.1
  have hb := C.2.1
  have hbA : ¬ An s b0 := Nat.not_le.mpr hbl
  obtain ⟨r, q, k, hr, hq, hk, hv, ht, hrel⟩ := S σ τ (xs (x4 + (1 : Int32)).toNatClampNeg) hrel
  refine lv_aload_n hx0 hb dL_law_521 rfl (lv_at hl 1 rfl) ?_
  refine lv_aload_n hx0 hb dL_law_522 rfl (lv_at hl 0 rfl) ?_
  refine lv_iload hx0 hb dL_law_523 (lv_at hl 4 rfl) ?_
  refine lv_iconst (v := (1 : Int32)) hx0 hb dL_law_525 (by decide) ?_
  refine lv_iadd hx0 hb dL_law_526 ?_
  refine va_sld hx0 hb hX hbl hbA hS (hin 1 (by decide)) dL_law_527 ?_
  refine lv_aload_n hx0 hb dL_law_528 rfl (lv_at hl 3 rfl) ?_
  refine z_wrap (As := [.ref (a + 0), .int (xs (x4 + (1 : Int32)).toNatClampNeg), .ref o]) (rest := []) C hN hE hWL hS (mL_find (xs (x4 + (1 : Int32)).toNatClampNeg) σ r hr w k hk) cwL_find csL_find mlL_150 ⟨by decide, by decide⟩ rfl hl.1 (Nat.le_of_ble_eq_true rfl) ⟨Nat.le_trans (Nat.add_le_add_left (show 2 ≤ 4 by decide) _) hcs.1, Nat.le_trans (Nat.add_le_add_left (show 12 ≤ 24 by decide) _) hcs.2⟩ dL_law_529 rfl (fun H locs hWL hS => ?_)
  refine W.widen (k := cells + 4) (n := slots + 24) (Nat.add_le_add_left (by decide) _) (Nat.add_le_add_left (by decide) _) ?_
  refine lv_istore (lv' := [(5, .int k), (0, .ref b0), (1, .ref (a + 0)), (2, .ref (b + 0)), (3, .ref o), (4, .int x4)]) hx0 hb dL_law_532 hl (by decide) rfl (fun ls hl => ?_)
  refine lv_aload_n hx0 hb dL_law_534 rfl (lv_at hl 3 rfl) ?_
  refine lv_aload_n hx0 hb dL_law_535 rfl (lv_at hl 1 rfl) ?_
  refine lv_iload hx0 hb dL_law_536 (lv_at hl 5 rfl) ?_
  refine lv_iconst (v := (1 : Int32)) hx0 hb dL_law_538 (by decide) ?_
  refine lv_iadd hx0 hb dL_law_539 ?_
  refine va_sld hx0 hb hX hbl hbA hS (hin 1 (by decide)) dL_law_540 ?_
  refine z_callM (As := [.int (xs (x4 + (1 : Int32)).toNatClampNeg)]) (rest := []) C hE hWL hS (mX12_find (xs (x4 + (1 : Int32)).toNatClampNeg) τ q hq) cwX12_find cvX12_find rfl mlL_152 ⟨by decide, by decide⟩ rfl hl.1 (Nat.le_of_ble_eq_true rfl) ⟨hcs.1, hcs.2⟩ dL_law_541 rfl (fun H locs hWL hS => ?_)
  refine lv_istore (lv' := [(6, .int q.1), (5, .int k), (0, .ref b0), (1, .ref (a + 0)), (2, .ref (b + 0)), (3, .ref o), (4, .int x4)]) hx0 hb dL_law_544 hl (by decide) rfl (fun ls hl => ?_)
  refine lv_aload_n hx0 hb dL_law_546 rfl (lv_at hl 4 rfl) ?_
  refine z_callM (As := []) (rest := []) C hE hWL hS (mX12_thrown q.2 (q.2 0 0) rfl) cwX12_thrown cvX12_thrown rfl mlL_132 ⟨by decide, by decide⟩ rfl hl.1 (Nat.le_of_ble_eq_true rfl) ⟨hcs.1, hcs.2⟩ dL_law_547 rfl (fun H locs hWL hS => ?_)
  refine lv_iload hx0 hb dL_law_550 (lv_at hl 1 rfl) ?_
  refine lv_icmp_eq (tgt := 557) hx0 hb dL_law_552 (by decide) (fun _ => ?_) (fun z => absurd ht z)
  refine lv_iload hx0 hb dL_law_557 (lv_at hl 1 rfl) ?_
  refine lv_if_ne (tgt := 574) hx0 hb dL_law_559 (by decide) (fun _ => ?_) (fun z => ?_)
  · refine lv_goto (tgt := 2459) hx0 hb dL_law_574 (by decide) ?_
    exact hend _ _ _ _ _ _ hrel hWL hS (lv_sub hl [2, 3, 4, 5, 6] rfl)
  obtain ⟨v9, e9⟩ : ∃ v, r.1 = .inr v := by
    rcases hk with ⟨v, e, _⟩ | ⟨_, e⟩ | ⟨_, e⟩
    · exact ⟨v, e⟩
    · rw [e] at z; exact absurd z (by decide)
    · rw [e] at z; exact absurd z (by decide)
  have e8 : ou r w = q.1.toInt64 := by unfold ou; rw [e9, hv v9 e9]
  refine lv_aload_n hx0 hb dL_law_562 rfl (lv_at hl 5 rfl) ?_
  refine lv_iconst (v := (0 : Int32)) hx0 hb dL_law_563 (by decide) ?_
  refine z_lald C hWL.2.2.1 dL_law_564 ?_
  refine lv_iload hx0 hb dL_law_565 (lv_at hl 0 rfl) ?_
  refine lv_i2l hx0 hb dL_law_567 rfl ?_
  refine W.lcmp hx0 hb dL_law_568 ?_
  rw [e8, lcmp0]
  refine lv_if_eq (tgt := 574) hx0 hb dL_law_569 (by decide) (fun _ => ?_) (fun z => absurd rfl z)
  refine lv_goto (tgt := 2459) hx0 hb dL_law_574 (by decide) ?_
  exact hend _ _ _ _ _ _ hrel hWL hS (lv_sub hl [2, 3, 4, 5, 6] rfl)
def Sim6 (Rel : Mem → Mem → Prop) : Prop := ∀ (σ τ : Mem) (x1 : Int32) (x2 : Int32) (x3 : Int32), Rel σ τ → ∃ (r : Rx) (q : Int32 × Mem) (k : Int32), fX11_attach 0 x1 x2 x3 σ = some r ∧ fX12_attach x1 x2 x3 τ = some q ∧ ((∃ v, r.1 = .inr v ∧ k = 0) ∨ (r.1 = .inl 2 ∧ k = 1) ∨ (r.1 = .inl 1 ∧ k = 2) ∨ (r.1 = .inl 0 ∧ k = 3)) ∧ (∀ v, r.1 = .inr v → q.1 = v) ∧ q.2 0 0 = k ∧ Rel r.2 q.2
set_option maxRecDepth 100000 in
set_option maxHeartbeats 4000000 in
theorem lc_6 {p : Program} {l : Launch} {e : Env} {s : State} {m : MethodId} {args : Array Value} {below : List Frame} {meth : Method} {c : Code} {E : Ev} {a b o b0 N : Nat} {xs : Nat → Int32} {Q : State → Prop} {Rel : Mem → Mem → Prop} (S : Sim6 Rel) (C : Cx p l s m args meth c E cL_law 7 RL (some .boolean)) (hN : Nx s) (hE : E.2.1 = s.heap) (hX : va_X b0 N xs s s.heap) (hbl : b0 < s.heap.size) {x4 : Int32} (hin : ∀ j : Nat, j < 6 → vp_in (x4 + Int32.ofNat j) N) {σ τ : Mem} {w : Int64} {H : Heap} {locs : List Loc} {cells slots : Nat} {ls : Array Slot} (hcs : cells + 4 ≤ 601024 ∧ slots + 24 ≤ 7293034) (hrel : Rel σ τ) (hWL : WL E a b o σ τ w H) (hS : va_S (An s) s.heap H locs) (hl : lv_has ls 7 [(0, .ref b0), (1, .ref (a + 0)), (2, .ref (b + 0)), (3, .ref o), (4, .int x4)]) (hend : ∀ (σ τ : Mem) (w : Int64) (H : Heap) (locs : List Loc) (ls : Array Slot), Rel σ τ → WL E a b o σ τ w H → va_S (An s) s.heap H locs → lv_has ls 7 [(0, .ref b0), (1, .ref (a + 0)), (2, .ref (b + 0)), (3, .ref o), (4, .int x4)] → W p l e room_1 s m args below meth c H locs (cells + 4) (slots + 24) Q (F0 m 2459 ls [])) : W p l e room_1 s m args below meth c H locs cells slots Q (F0 m 577 ls []) := by
  have hx0 := C.1
  have hb := C.2.1
  have hbA : ¬ An s b0 := Nat.not_le.mpr hbl
  obtain ⟨r, q, k, hr, hq, hk, hv, ht, hrel⟩ := S σ τ (xs (x4 + (1 : Int32)).toNatClampNeg) (xs (x4 + (2 : Int32)).toNatClampNeg) (xs (x4 + (3 : Int32)).toNatClampNeg) hrel
  refine lv_aload_n hx0 hb dL_law_577 rfl (lv_at hl 1 rfl) ?_
  refine lv_aload_n hx0 hb dL_law_578 rfl (lv_at hl 0 rfl) ?_
  refine lv_iload hx0 hb dL_law_579 (lv_at hl 4 rfl) ?_
  refine lv_iconst (v := (1 : Int32)) hx0 hb dL_law_581 (by decide) ?_
  refine lv_iadd hx0 hb dL_law_582 ?_
  refine va_sld hx0 hb hX hbl hbA hS (hin 1 (by decide)) dL_law_583 ?_
  refine lv_aload_n hx0 hb dL_law_584 rfl (lv_at hl 0 rfl) ?_
  refine lv_iload hx0 hb dL_law_585 (lv_at hl 4 rfl) ?_
  refine lv_iconst (v := (2 : Int32)) hx0 hb dL_law_587 (by decide) ?_
  refine lv_iadd hx0 hb dL_law_588 ?_
  refine va_sld hx0 hb hX hbl hbA hS (hin 2 (by decide)) dL_law_589 ?_
  refine lv_aload_n hx0 hb dL_law_590 rfl (lv_at hl 0 rfl) ?_
  refine lv_iload hx0 hb dL_law_591 (lv_at hl 4 rfl) ?_
  refine lv_iconst (v := (3 : Int32)) hx0 hb dL_law_593 (by decide) ?_
  refine lv_iadd hx0 hb dL_law_594 ?_
  refine va_sld hx0 hb hX hbl hbA hS (hin 3 (by decide)) dL_law_595 ?_
  refine lv_aload_n hx0 hb dL_law_596 rfl (lv_at hl 3 rfl) ?_
  refine z_wrap (As := [.ref (a + 0), .int (xs (x4 + (1 : Int32)).toNatClampNeg), .int (xs (x4 + (2 : Int32)).toNatClampNeg), .int (xs (x4 + (3 : Int32)).toNatClampNeg), .ref o]) (rest := []) C hN hE hWL hS (mL_attach (xs (x4 + (1 : Int32)).toNatClampNeg) (xs (x4 + (2 : Int32)).toNatClampNeg) (xs (x4 + (3 : Int32)).toNatClampNeg) σ r hr w k hk) cwL_attach csL_attach mlL_153 ⟨by decide, by decide⟩ rfl hl.1 (Nat.le_of_ble_eq_true rfl) ⟨Nat.le_trans (Nat.add_le_add_left (show 3 ≤ 4 by decide) _) hcs.1, Nat.le_trans (Nat.add_le_add_left (show 18 ≤ 24 by decide) _) hcs.2⟩ dL_law_597 rfl (fun H locs hWL hS => ?_)
  refine W.widen (k := cells + 4) (n := slots + 24) (Nat.add_le_add_left (by decide) _) (Nat.add_le_add_left (by decide) _) ?_
  refine lv_istore (lv' := [(5, .int k), (0, .ref b0), (1, .ref (a + 0)), (2, .ref (b + 0)), (3, .ref o), (4, .int x4)]) hx0 hb dL_law_600 hl (by decide) rfl (fun ls hl => ?_)
  refine lv_aload_n hx0 hb dL_law_602 rfl (lv_at hl 3 rfl) ?_
  refine lv_aload_n hx0 hb dL_law_603 rfl (lv_at hl 1 rfl) ?_
  refine lv_iload hx0 hb dL_law_604 (lv_at hl 5 rfl) ?_
  refine lv_iconst (v := (1 : Int32)) hx0 hb dL_law_606 (by decide) ?_
  refine lv_iadd hx0 hb dL_law_607 ?_
  refine va_sld hx0 hb hX hbl hbA hS (hin 1 (by decide)) dL_law_608 ?_
  refine lv_aload_n hx0 hb dL_law_609 rfl (lv_at hl 1 rfl) ?_
  refine lv_iload hx0 hb dL_law_610 (lv_at hl 5 rfl) ?_
  refine lv_iconst (v := (2 : Int32)) hx0 hb dL_law_612 (by decide) ?_
  refine lv_iadd hx0 hb dL_law_613 ?_
  refine va_sld hx0 hb hX hbl hbA hS (hin 2 (by decide)) dL_law_614 ?_
  refine lv_aload_n hx0 hb dL_law_615 rfl (lv_at hl 1 rfl) ?_
  refine lv_iload hx0 hb dL_law_616 (lv_at hl 5 rfl) ?_
  refine lv_iconst (v := (3 : Int32)) hx0 hb dL_law_618 (by decide) ?_
  refine lv_iadd hx0 hb dL_law_619 ?_
  refine va_sld hx0 hb hX hbl hbA hS (hin 3 (by decide)) dL_law_620 ?_
  refine z_callM (As := [.int (xs (x4 + (1 : Int32)).toNatClampNeg), .int (xs (x4 + (2 : Int32)).toNatClampNeg), .int (xs (x4 + (3 : Int32)).toNatClampNeg)]) (rest := []) C hE hWL hS (mX12_attach (xs (x4 + (1 : Int32)).toNatClampNeg) (xs (x4 + (2 : Int32)).toNatClampNeg) (xs (x4 + (3 : Int32)).toNatClampNeg) τ q hq) cwX12_attach cvX12_attach rfl mlL_156 ⟨by decide, by decide⟩ rfl hl.1 (Nat.le_of_ble_eq_true rfl) ⟨hcs.1, hcs.2⟩ dL_law_621 rfl (fun H locs hWL hS => ?_)
  refine lv_istore (lv' := [(6, .int q.1), (5, .int k), (0, .ref b0), (1, .ref (a + 0)), (2, .ref (b + 0)), (3, .ref o), (4, .int x4)]) hx0 hb dL_law_624 hl (by decide) rfl (fun ls hl => ?_)
  refine lv_aload_n hx0 hb dL_law_626 rfl (lv_at hl 4 rfl) ?_
  refine z_callM (As := []) (rest := []) C hE hWL hS (mX12_thrown q.2 (q.2 0 0) rfl) cwX12_thrown cvX12_thrown rfl mlL_132 ⟨by decide, by decide⟩ rfl hl.1 (Nat.le_of_ble_eq_true rfl) ⟨hcs.1, hcs.2⟩ dL_law_627 rfl (fun H locs hWL hS => ?_)
  refine lv_iload hx0 hb dL_law_630 (lv_at hl 1 rfl) ?_
  refine lv_icmp_eq (tgt := 637) hx0 hb dL_law_632 (by decide) (fun _ => ?_) (fun z => absurd ht z)
  refine lv_iload hx0 hb dL_law_637 (lv_at hl 1 rfl) ?_
  refine lv_if_ne (tgt := 654) hx0 hb dL_law_639 (by decide) (fun _ => ?_) (fun z => ?_)
  · refine lv_goto (tgt := 2459) hx0 hb dL_law_654 (by decide) ?_
    exact hend _ _ _ _ _ _ hrel hWL hS (lv_sub hl [2, 3, 4, 5, 6] rfl)
  obtain ⟨v9, e9⟩ : ∃ v, r.1 = .inr v := by
    rcases hk with ⟨v, e, _⟩ | ⟨_, e⟩ | ⟨_, e⟩ | ⟨_, e⟩
    · exact ⟨v, e⟩
    · rw [e] at z; exact absurd z (by decide)
    · rw [e] at z; exact absurd z (by decide)
    · rw [e] at z; exact absurd z (by decide)
  have e8 : ou r w = q.1.toInt64 := by unfold ou; rw [e9, hv v9 e9]
  refine lv_aload_n hx0 hb dL_law_642 rfl (lv_at hl 5 rfl) ?_
  refine lv_iconst (v := (0 : Int32)) hx0 hb dL_law_643 (by decide) ?_
  refine z_lald C hWL.2.2.1 dL_law_644 ?_
  refine lv_iload hx0 hb dL_law_645 (lv_at hl 0 rfl) ?_
  refine lv_i2l hx0 hb dL_law_647 rfl ?_
  refine W.lcmp hx0 hb dL_law_648 ?_
  rw [e8, lcmp0]
  refine lv_if_eq (tgt := 654) hx0 hb dL_law_649 (by decide) (fun _ => ?_) (fun z => absurd rfl z)
  refine lv_goto (tgt := 2459) hx0 hb dL_law_654 (by decide) ?_
  exact hend _ _ _ _ _ _ hrel hWL hS (lv_sub hl [2, 3, 4, 5, 6] rfl)
def Sim7 (Rel : Mem → Mem → Prop) : Prop := ∀ (σ τ : Mem) (x1 : Int32), Rel σ τ → ∃ (r : Rx) (q : Int32 × Mem) (k : Int32), fX11_detach 0 x1 σ = some r ∧ fX12_detach x1 τ = some q ∧ ((∃ v, r.1 = .inr v ∧ k = 0) ∨ (r.1 = .inl 2 ∧ k = 1) ∨ (r.1 = .inl 0 ∧ k = 2)) ∧ (∀ v, r.1 = .inr v → q.1 = v) ∧ q.2 0 0 = k ∧ Rel r.2 q.2
set_option maxRecDepth 100000 in
set_option maxHeartbeats 4000000 in
theorem lc_7 {p : Program} {l : Launch} {e : Env} {s : State} {m : MethodId} {args : Array Value} {below : List Frame} {meth : Method} {c : Code} {E : Ev} {a b o b0 N : Nat} {xs : Nat → Int32} {Q : State → Prop} {Rel : Mem → Mem → Prop} (S : Sim7 Rel) (C : Cx p l s m args meth c E cL_law 7 RL (some .boolean)) (hN : Nx s) (hE : E.2.1 = s.heap) (hX : va_X b0 N xs s s.heap) (hbl : b0 < s.heap.size) {x4 : Int32} (hin : ∀ j : Nat, j < 6 → vp_in (x4 + Int32.ofNat j) N) {σ τ : Mem} {w : Int64} {H : Heap} {locs : List Loc} {cells slots : Nat} {ls : Array Slot} (hcs : cells + 4 ≤ 601024 ∧ slots + 24 ≤ 7293034) (hrel : Rel σ τ) (hWL : WL E a b o σ τ w H) (hS : va_S (An s) s.heap H locs) (hl : lv_has ls 7 [(0, .ref b0), (1, .ref (a + 0)), (2, .ref (b + 0)), (3, .ref o), (4, .int x4)]) (hend : ∀ (σ τ : Mem) (w : Int64) (H : Heap) (locs : List Loc) (ls : Array Slot), Rel σ τ → WL E a b o σ τ w H → va_S (An s) s.heap H locs → lv_has ls 7 [(0, .ref b0), (1, .ref (a + 0)), (2, .ref (b + 0)), (3, .ref o), (4, .int x4)] → W p l e room_1 s m args below meth c H locs (cells + 4) (slots + 24) Q (F0 m 2459 ls [])) : W p l e room_1 s m args below meth c H locs cells slots Q (F0 m 657 ls []) := by
  have hx0 := C.1
  have hb := C.2.1
  have hbA : ¬ An s b0 := Nat.not_le.mpr hbl
  obtain ⟨r, q, k, hr, hq, hk, hv, ht, hrel⟩ := S σ τ (xs (x4 + (1 : Int32)).toNatClampNeg) hrel
  refine lv_aload_n hx0 hb dL_law_657 rfl (lv_at hl 1 rfl) ?_
  refine lv_aload_n hx0 hb dL_law_658 rfl (lv_at hl 0 rfl) ?_
  refine lv_iload hx0 hb dL_law_659 (lv_at hl 4 rfl) ?_
  refine lv_iconst (v := (1 : Int32)) hx0 hb dL_law_661 (by decide) ?_
  refine lv_iadd hx0 hb dL_law_662 ?_
  refine va_sld hx0 hb hX hbl hbA hS (hin 1 (by decide)) dL_law_663 ?_
  refine lv_aload_n hx0 hb dL_law_664 rfl (lv_at hl 3 rfl) ?_
  refine z_wrap (As := [.ref (a + 0), .int (xs (x4 + (1 : Int32)).toNatClampNeg), .ref o]) (rest := []) C hN hE hWL hS (mL_detach (xs (x4 + (1 : Int32)).toNatClampNeg) σ r hr w k hk) cwL_detach csL_detach mlL_157 ⟨by decide, by decide⟩ rfl hl.1 (Nat.le_of_ble_eq_true rfl) ⟨Nat.le_trans (Nat.add_le_add_left (show 2 ≤ 4 by decide) _) hcs.1, Nat.le_trans (Nat.add_le_add_left (show 12 ≤ 24 by decide) _) hcs.2⟩ dL_law_665 rfl (fun H locs hWL hS => ?_)
  refine W.widen (k := cells + 4) (n := slots + 24) (Nat.add_le_add_left (by decide) _) (Nat.add_le_add_left (by decide) _) ?_
  refine lv_istore (lv' := [(5, .int k), (0, .ref b0), (1, .ref (a + 0)), (2, .ref (b + 0)), (3, .ref o), (4, .int x4)]) hx0 hb dL_law_668 hl (by decide) rfl (fun ls hl => ?_)
  refine lv_aload_n hx0 hb dL_law_670 rfl (lv_at hl 3 rfl) ?_
  refine lv_aload_n hx0 hb dL_law_671 rfl (lv_at hl 1 rfl) ?_
  refine lv_iload hx0 hb dL_law_672 (lv_at hl 5 rfl) ?_
  refine lv_iconst (v := (1 : Int32)) hx0 hb dL_law_674 (by decide) ?_
  refine lv_iadd hx0 hb dL_law_675 ?_
  refine va_sld hx0 hb hX hbl hbA hS (hin 1 (by decide)) dL_law_676 ?_
  refine z_callM (As := [.int (xs (x4 + (1 : Int32)).toNatClampNeg)]) (rest := []) C hE hWL hS (mX12_detach (xs (x4 + (1 : Int32)).toNatClampNeg) τ q hq) cwX12_detach cvX12_detach rfl mlL_159 ⟨by decide, by decide⟩ rfl hl.1 (Nat.le_of_ble_eq_true rfl) ⟨hcs.1, hcs.2⟩ dL_law_677 rfl (fun H locs hWL hS => ?_)
  refine lv_istore (lv' := [(6, .int q.1), (5, .int k), (0, .ref b0), (1, .ref (a + 0)), (2, .ref (b + 0)), (3, .ref o), (4, .int x4)]) hx0 hb dL_law_680 hl (by decide) rfl (fun ls hl => ?_)
  refine lv_aload_n hx0 hb dL_law_682 rfl (lv_at hl 4 rfl) ?_
  refine z_callM (As := []) (rest := []) C hE hWL hS (mX12_thrown q.2 (q.2 0 0) rfl) cwX12_thrown cvX12_thrown rfl mlL_132 ⟨by decide, by decide⟩ rfl hl.1 (Nat.le_of_ble_eq_true rfl) ⟨hcs.1, hcs.2⟩ dL_law_683 rfl (fun H locs hWL hS => ?_)
  refine lv_iload hx0 hb dL_law_686 (lv_at hl 1 rfl) ?_
  refine lv_icmp_eq (tgt := 693) hx0 hb dL_law_688 (by decide) (fun _ => ?_) (fun z => absurd ht z)
  refine lv_iload hx0 hb dL_law_693 (lv_at hl 1 rfl) ?_
  refine lv_if_ne (tgt := 710) hx0 hb dL_law_695 (by decide) (fun _ => ?_) (fun z => ?_)
  · refine lv_goto (tgt := 2459) hx0 hb dL_law_710 (by decide) ?_
    exact hend _ _ _ _ _ _ hrel hWL hS (lv_sub hl [2, 3, 4, 5, 6] rfl)
  obtain ⟨v9, e9⟩ : ∃ v, r.1 = .inr v := by
    rcases hk with ⟨v, e, _⟩ | ⟨_, e⟩ | ⟨_, e⟩
    · exact ⟨v, e⟩
    · rw [e] at z; exact absurd z (by decide)
    · rw [e] at z; exact absurd z (by decide)
  have e8 : ou r w = q.1.toInt64 := by unfold ou; rw [e9, hv v9 e9]
  refine lv_aload_n hx0 hb dL_law_698 rfl (lv_at hl 5 rfl) ?_
  refine lv_iconst (v := (0 : Int32)) hx0 hb dL_law_699 (by decide) ?_
  refine z_lald C hWL.2.2.1 dL_law_700 ?_
  refine lv_iload hx0 hb dL_law_701 (lv_at hl 0 rfl) ?_
  refine lv_i2l hx0 hb dL_law_703 rfl ?_
  refine W.lcmp hx0 hb dL_law_704 ?_
  rw [e8, lcmp0]
  refine lv_if_eq (tgt := 710) hx0 hb dL_law_705 (by decide) (fun _ => ?_) (fun z => absurd rfl z)
  refine lv_goto (tgt := 2459) hx0 hb dL_law_710 (by decide) ?_
  exact hend _ _ _ _ _ _ hrel hWL hS (lv_sub hl [2, 3, 4, 5, 6] rfl)
def Sim8 (Rel : Mem → Mem → Prop) : Prop := ∀ (σ τ : Mem) (x1 : Int32) (x2 : Int32) (x3 : Int32) (x4 : Int32), Rel σ τ → ∃ (r : Rx) (q : Int32 × Mem) (k : Int32), fX11_label 0 x1 x2 x3 x4 σ = some r ∧ fX12_label x1 x2 x3 x4 τ = some q ∧ ((∃ v, r.1 = .inr v ∧ k = 0) ∨ (r.1 = .inl 2 ∧ k = 1) ∨ (r.1 = .inl 1 ∧ k = 2) ∨ (r.1 = .inl 0 ∧ k = 3)) ∧ (∀ v, r.1 = .inr v → q.1 = v) ∧ q.2 0 0 = k ∧ Rel r.2 q.2
set_option maxRecDepth 100000 in
set_option maxHeartbeats 4000000 in
theorem lc_8 {p : Program} {l : Launch} {e : Env} {s : State} {m : MethodId} {args : Array Value} {below : List Frame} {meth : Method} {c : Code} {E : Ev} {a b o b0 N : Nat} {xs : Nat → Int32} {Q : State → Prop} {Rel : Mem → Mem → Prop} (S : Sim8 Rel) (C : Cx p l s m args meth c E cL_law 7 RL (some .boolean)) (hN : Nx s) (hE : E.2.1 = s.heap) (hX : va_X b0 N xs s s.heap) (hbl : b0 < s.heap.size) {x4 : Int32} (hin : ∀ j : Nat, j < 6 → vp_in (x4 + Int32.ofNat j) N) {σ τ : Mem} {w : Int64} {H : Heap} {locs : List Loc} {cells slots : Nat} {ls : Array Slot} (hcs : cells + 4 ≤ 601024 ∧ slots + 24 ≤ 7293034) (hrel : Rel σ τ) (hWL : WL E a b o σ τ w H) (hS : va_S (An s) s.heap H locs) (hl : lv_has ls 7 [(0, .ref b0), (1, .ref (a + 0)), (2, .ref (b + 0)), (3, .ref o), (4, .int x4)]) (hend : ∀ (σ τ : Mem) (w : Int64) (H : Heap) (locs : List Loc) (ls : Array Slot), Rel σ τ → WL E a b o σ τ w H → va_S (An s) s.heap H locs → lv_has ls 7 [(0, .ref b0), (1, .ref (a + 0)), (2, .ref (b + 0)), (3, .ref o), (4, .int x4)] → W p l e room_1 s m args below meth c H locs (cells + 4) (slots + 24) Q (F0 m 2459 ls [])) : W p l e room_1 s m args below meth c H locs cells slots Q (F0 m 713 ls []) := by
  have hx0 := C.1
  have hb := C.2.1
  have hbA : ¬ An s b0 := Nat.not_le.mpr hbl
  obtain ⟨r, q, k, hr, hq, hk, hv, ht, hrel⟩ := S σ τ (xs (x4 + (1 : Int32)).toNatClampNeg) (xs (x4 + (2 : Int32)).toNatClampNeg) (xs (x4 + (3 : Int32)).toNatClampNeg) (xs (x4 + (4 : Int32)).toNatClampNeg) hrel
  refine lv_aload_n hx0 hb dL_law_713 rfl (lv_at hl 1 rfl) ?_
  refine lv_aload_n hx0 hb dL_law_714 rfl (lv_at hl 0 rfl) ?_
  refine lv_iload hx0 hb dL_law_715 (lv_at hl 4 rfl) ?_
  refine lv_iconst (v := (1 : Int32)) hx0 hb dL_law_717 (by decide) ?_
  refine lv_iadd hx0 hb dL_law_718 ?_
  refine va_sld hx0 hb hX hbl hbA hS (hin 1 (by decide)) dL_law_719 ?_
  refine lv_aload_n hx0 hb dL_law_720 rfl (lv_at hl 0 rfl) ?_
  refine lv_iload hx0 hb dL_law_721 (lv_at hl 4 rfl) ?_
  refine lv_iconst (v := (2 : Int32)) hx0 hb dL_law_723 (by decide) ?_
  refine lv_iadd hx0 hb dL_law_724 ?_
  refine va_sld hx0 hb hX hbl hbA hS (hin 2 (by decide)) dL_law_725 ?_
  refine lv_aload_n hx0 hb dL_law_726 rfl (lv_at hl 0 rfl) ?_
  refine lv_iload hx0 hb dL_law_727 (lv_at hl 4 rfl) ?_
  refine lv_iconst (v := (3 : Int32)) hx0 hb dL_law_729 (by decide) ?_
  refine lv_iadd hx0 hb dL_law_730 ?_
  refine va_sld hx0 hb hX hbl hbA hS (hin 3 (by decide)) dL_law_731 ?_
  refine lv_aload_n hx0 hb dL_law_732 rfl (lv_at hl 0 rfl) ?_
  refine lv_iload hx0 hb dL_law_733 (lv_at hl 4 rfl) ?_
  refine lv_iconst (v := (4 : Int32)) hx0 hb dL_law_735 (by decide) ?_
  refine lv_iadd hx0 hb dL_law_736 ?_
  refine va_sld hx0 hb hX hbl hbA hS (hin 4 (by decide)) dL_law_737 ?_
  refine lv_aload_n hx0 hb dL_law_738 rfl (lv_at hl 3 rfl) ?_
  refine z_wrap (As := [.ref (a + 0), .int (xs (x4 + (1 : Int32)).toNatClampNeg), .int (xs (x4 + (2 : Int32)).toNatClampNeg), .int (xs (x4 + (3 : Int32)).toNatClampNeg), .int (xs (x4 + (4 : Int32)).toNatClampNeg), .ref o]) (rest := []) C hN hE hWL hS (mL_label (xs (x4 + (1 : Int32)).toNatClampNeg) (xs (x4 + (2 : Int32)).toNatClampNeg) (xs (x4 + (3 : Int32)).toNatClampNeg) (xs (x4 + (4 : Int32)).toNatClampNeg) σ r hr w k hk) cwL_label csL_label mlL_160 ⟨by decide, by decide⟩ rfl hl.1 (Nat.le_of_ble_eq_true rfl) ⟨Nat.le_trans (Nat.add_le_add_left (show 3 ≤ 4 by decide) _) hcs.1, Nat.le_trans (Nat.add_le_add_left (show 18 ≤ 24 by decide) _) hcs.2⟩ dL_law_739 rfl (fun H locs hWL hS => ?_)
  refine W.widen (k := cells + 4) (n := slots + 24) (Nat.add_le_add_left (by decide) _) (Nat.add_le_add_left (by decide) _) ?_
  refine lv_istore (lv' := [(5, .int k), (0, .ref b0), (1, .ref (a + 0)), (2, .ref (b + 0)), (3, .ref o), (4, .int x4)]) hx0 hb dL_law_742 hl (by decide) rfl (fun ls hl => ?_)
  refine lv_aload_n hx0 hb dL_law_744 rfl (lv_at hl 3 rfl) ?_
  refine lv_aload_n hx0 hb dL_law_745 rfl (lv_at hl 1 rfl) ?_
  refine lv_iload hx0 hb dL_law_746 (lv_at hl 5 rfl) ?_
  refine lv_iconst (v := (1 : Int32)) hx0 hb dL_law_748 (by decide) ?_
  refine lv_iadd hx0 hb dL_law_749 ?_
  refine va_sld hx0 hb hX hbl hbA hS (hin 1 (by decide)) dL_law_750 ?_
  refine lv_aload_n hx0 hb dL_law_751 rfl (lv_at hl 1 rfl) ?_
  refine lv_iload hx0 hb dL_law_752 (lv_at hl 5 rfl) ?_
  refine lv_iconst (v := (2 : Int32)) hx0 hb dL_law_754 (by decide) ?_
  refine lv_iadd hx0 hb dL_law_755 ?_
  refine va_sld hx0 hb hX hbl hbA hS (hin 2 (by decide)) dL_law_756 ?_
  refine lv_aload_n hx0 hb dL_law_757 rfl (lv_at hl 1 rfl) ?_
  refine lv_iload hx0 hb dL_law_758 (lv_at hl 5 rfl) ?_
  refine lv_iconst (v := (3 : Int32)) hx0 hb dL_law_760 (by decide) ?_
  refine lv_iadd hx0 hb dL_law_761 ?_
  refine va_sld hx0 hb hX hbl hbA hS (hin 3 (by decide)) dL_law_762 ?_
  refine lv_aload_n hx0 hb dL_law_763 rfl (lv_at hl 1 rfl) ?_
  refine lv_iload hx0 hb dL_law_764 (lv_at hl 5 rfl) ?_
  refine lv_iconst (v := (4 : Int32)) hx0 hb dL_law_766 (by decide) ?_
  refine lv_iadd hx0 hb dL_law_767 ?_
  refine va_sld hx0 hb hX hbl hbA hS (hin 4 (by decide)) dL_law_768 ?_
  refine z_callM (As := [.int (xs (x4 + (1 : Int32)).toNatClampNeg), .int (xs (x4 + (2 : Int32)).toNatClampNeg), .int (xs (x4 + (3 : Int32)).toNatClampNeg), .int (xs (x4 + (4 : Int32)).toNatClampNeg)]) (rest := []) C hE hWL hS (mX12_label (xs (x4 + (1 : Int32)).toNatClampNeg) (xs (x4 + (2 : Int32)).toNatClampNeg) (xs (x4 + (3 : Int32)).toNatClampNeg) (xs (x4 + (4 : Int32)).toNatClampNeg) τ q hq) cwX12_label cvX12_label rfl mlL_163 ⟨by decide, by decide⟩ rfl hl.1 (Nat.le_of_ble_eq_true rfl) ⟨hcs.1, hcs.2⟩ dL_law_769 rfl (fun H locs hWL hS => ?_)
  refine lv_istore (lv' := [(6, .int q.1), (5, .int k), (0, .ref b0), (1, .ref (a + 0)), (2, .ref (b + 0)), (3, .ref o), (4, .int x4)]) hx0 hb dL_law_772 hl (by decide) rfl (fun ls hl => ?_)
  refine lv_aload_n hx0 hb dL_law_774 rfl (lv_at hl 4 rfl) ?_
  refine z_callM (As := []) (rest := []) C hE hWL hS (mX12_thrown q.2 (q.2 0 0) rfl) cwX12_thrown cvX12_thrown rfl mlL_132 ⟨by decide, by decide⟩ rfl hl.1 (Nat.le_of_ble_eq_true rfl) ⟨hcs.1, hcs.2⟩ dL_law_775 rfl (fun H locs hWL hS => ?_)
  refine lv_iload hx0 hb dL_law_778 (lv_at hl 1 rfl) ?_
  refine lv_icmp_eq (tgt := 785) hx0 hb dL_law_780 (by decide) (fun _ => ?_) (fun z => absurd ht z)
  refine lv_iload hx0 hb dL_law_785 (lv_at hl 1 rfl) ?_
  refine lv_if_ne (tgt := 802) hx0 hb dL_law_787 (by decide) (fun _ => ?_) (fun z => ?_)
  · refine lv_goto (tgt := 2459) hx0 hb dL_law_802 (by decide) ?_
    exact hend _ _ _ _ _ _ hrel hWL hS (lv_sub hl [2, 3, 4, 5, 6] rfl)
  obtain ⟨v9, e9⟩ : ∃ v, r.1 = .inr v := by
    rcases hk with ⟨v, e, _⟩ | ⟨_, e⟩ | ⟨_, e⟩ | ⟨_, e⟩
    · exact ⟨v, e⟩
    · rw [e] at z; exact absurd z (by decide)
    · rw [e] at z; exact absurd z (by decide)
    · rw [e] at z; exact absurd z (by decide)
  have e8 : ou r w = q.1.toInt64 := by unfold ou; rw [e9, hv v9 e9]
  refine lv_aload_n hx0 hb dL_law_790 rfl (lv_at hl 5 rfl) ?_
  refine lv_iconst (v := (0 : Int32)) hx0 hb dL_law_791 (by decide) ?_
  refine z_lald C hWL.2.2.1 dL_law_792 ?_
  refine lv_iload hx0 hb dL_law_793 (lv_at hl 0 rfl) ?_
  refine lv_i2l hx0 hb dL_law_795 rfl ?_
  refine W.lcmp hx0 hb dL_law_796 ?_
  rw [e8, lcmp0]
  refine lv_if_eq (tgt := 802) hx0 hb dL_law_797 (by decide) (fun _ => ?_) (fun z => absurd rfl z)
  refine lv_goto (tgt := 2459) hx0 hb dL_law_802 (by decide) ?_
  exact hend _ _ _ _ _ _ hrel hWL hS (lv_sub hl [2, 3, 4, 5, 6] rfl)
def Sim9 (Rel : Mem → Mem → Prop) : Prop := ∀ (σ τ : Mem) (x1 : Int32) (x2 : Int32), Rel σ τ → ∃ (r : Rx) (q : Int32 × Mem) (k : Int32), fX11_scanLeaf 0 x1 x2 σ = some r ∧ fX12_scanLeaf x1 x2 τ = some q ∧ ((∃ v, r.1 = .inr v ∧ k = 0) ∨ (r.1 = .inl 2 ∧ k = 1) ∨ (r.1 = .inl 1 ∧ k = 2) ∨ (r.1 = .inl 0 ∧ k = 3)) ∧ (∀ v, r.1 = .inr v → q.1 = v) ∧ q.2 0 0 = k ∧ Rel r.2 q.2
set_option maxRecDepth 100000 in
set_option maxHeartbeats 4000000 in
theorem lc_9 {p : Program} {l : Launch} {e : Env} {s : State} {m : MethodId} {args : Array Value} {below : List Frame} {meth : Method} {c : Code} {E : Ev} {a b o b0 N : Nat} {xs : Nat → Int32} {Q : State → Prop} {Rel : Mem → Mem → Prop} (S : Sim9 Rel) (C : Cx p l s m args meth c E cL_law 7 RL (some .boolean)) (hN : Nx s) (hE : E.2.1 = s.heap) (hX : va_X b0 N xs s s.heap) (hbl : b0 < s.heap.size) {x4 : Int32} (hin : ∀ j : Nat, j < 6 → vp_in (x4 + Int32.ofNat j) N) {σ τ : Mem} {w : Int64} {H : Heap} {locs : List Loc} {cells slots : Nat} {ls : Array Slot} (hcs : cells + 4 ≤ 601024 ∧ slots + 24 ≤ 7293034) (hrel : Rel σ τ) (hWL : WL E a b o σ τ w H) (hS : va_S (An s) s.heap H locs) (hl : lv_has ls 7 [(0, .ref b0), (1, .ref (a + 0)), (2, .ref (b + 0)), (3, .ref o), (4, .int x4)]) (hend : ∀ (σ τ : Mem) (w : Int64) (H : Heap) (locs : List Loc) (ls : Array Slot), Rel σ τ → WL E a b o σ τ w H → va_S (An s) s.heap H locs → lv_has ls 7 [(0, .ref b0), (1, .ref (a + 0)), (2, .ref (b + 0)), (3, .ref o), (4, .int x4)] → W p l e room_1 s m args below meth c H locs (cells + 4) (slots + 24) Q (F0 m 2459 ls [])) : W p l e room_1 s m args below meth c H locs cells slots Q (F0 m 805 ls []) := by
  have hx0 := C.1
  have hb := C.2.1
  have hbA : ¬ An s b0 := Nat.not_le.mpr hbl
  obtain ⟨r, q, k, hr, hq, hk, hv, ht, hrel⟩ := S σ τ (xs (x4 + (1 : Int32)).toNatClampNeg) (xs (x4 + (2 : Int32)).toNatClampNeg) hrel
  refine lv_aload_n hx0 hb dL_law_805 rfl (lv_at hl 1 rfl) ?_
  refine lv_aload_n hx0 hb dL_law_806 rfl (lv_at hl 0 rfl) ?_
  refine lv_iload hx0 hb dL_law_807 (lv_at hl 4 rfl) ?_
  refine lv_iconst (v := (1 : Int32)) hx0 hb dL_law_809 (by decide) ?_
  refine lv_iadd hx0 hb dL_law_810 ?_
  refine va_sld hx0 hb hX hbl hbA hS (hin 1 (by decide)) dL_law_811 ?_
  refine lv_aload_n hx0 hb dL_law_812 rfl (lv_at hl 0 rfl) ?_
  refine lv_iload hx0 hb dL_law_813 (lv_at hl 4 rfl) ?_
  refine lv_iconst (v := (2 : Int32)) hx0 hb dL_law_815 (by decide) ?_
  refine lv_iadd hx0 hb dL_law_816 ?_
  refine va_sld hx0 hb hX hbl hbA hS (hin 2 (by decide)) dL_law_817 ?_
  refine lv_aload_n hx0 hb dL_law_818 rfl (lv_at hl 3 rfl) ?_
  refine z_wrap (As := [.ref (a + 0), .int (xs (x4 + (1 : Int32)).toNatClampNeg), .int (xs (x4 + (2 : Int32)).toNatClampNeg), .ref o]) (rest := []) C hN hE hWL hS (mL_scanLeaf (xs (x4 + (1 : Int32)).toNatClampNeg) (xs (x4 + (2 : Int32)).toNatClampNeg) σ r hr w k hk) cwL_scanLeaf csL_scanLeaf mlL_164 ⟨by decide, by decide⟩ rfl hl.1 (Nat.le_of_ble_eq_true rfl) ⟨Nat.le_trans (Nat.add_le_add_left (show 4 ≤ 4 by decide) _) hcs.1, Nat.le_trans (Nat.add_le_add_left (show 24 ≤ 24 by decide) _) hcs.2⟩ dL_law_819 rfl (fun H locs hWL hS => ?_)
  refine W.widen (k := cells + 4) (n := slots + 24) (Nat.add_le_add_left (by decide) _) (Nat.add_le_add_left (by decide) _) ?_
  refine lv_istore (lv' := [(5, .int k), (0, .ref b0), (1, .ref (a + 0)), (2, .ref (b + 0)), (3, .ref o), (4, .int x4)]) hx0 hb dL_law_822 hl (by decide) rfl (fun ls hl => ?_)
  refine lv_aload_n hx0 hb dL_law_824 rfl (lv_at hl 3 rfl) ?_
  refine lv_aload_n hx0 hb dL_law_825 rfl (lv_at hl 1 rfl) ?_
  refine lv_iload hx0 hb dL_law_826 (lv_at hl 5 rfl) ?_
  refine lv_iconst (v := (1 : Int32)) hx0 hb dL_law_828 (by decide) ?_
  refine lv_iadd hx0 hb dL_law_829 ?_
  refine va_sld hx0 hb hX hbl hbA hS (hin 1 (by decide)) dL_law_830 ?_
  refine lv_aload_n hx0 hb dL_law_831 rfl (lv_at hl 1 rfl) ?_
  refine lv_iload hx0 hb dL_law_832 (lv_at hl 5 rfl) ?_
  refine lv_iconst (v := (2 : Int32)) hx0 hb dL_law_834 (by decide) ?_
  refine lv_iadd hx0 hb dL_law_835 ?_
  refine va_sld hx0 hb hX hbl hbA hS (hin 2 (by decide)) dL_law_836 ?_
  refine z_callM (As := [.int (xs (x4 + (1 : Int32)).toNatClampNeg), .int (xs (x4 + (2 : Int32)).toNatClampNeg)]) (rest := []) C hE hWL hS (mX12_scanLeaf (xs (x4 + (1 : Int32)).toNatClampNeg) (xs (x4 + (2 : Int32)).toNatClampNeg) τ q hq) cwX12_scanLeaf cvX12_scanLeaf rfl mlL_167 ⟨by decide, by decide⟩ rfl hl.1 (Nat.le_of_ble_eq_true rfl) ⟨hcs.1, hcs.2⟩ dL_law_837 rfl (fun H locs hWL hS => ?_)
  refine lv_istore (lv' := [(6, .int q.1), (5, .int k), (0, .ref b0), (1, .ref (a + 0)), (2, .ref (b + 0)), (3, .ref o), (4, .int x4)]) hx0 hb dL_law_840 hl (by decide) rfl (fun ls hl => ?_)
  refine lv_aload_n hx0 hb dL_law_842 rfl (lv_at hl 4 rfl) ?_
  refine z_callM (As := []) (rest := []) C hE hWL hS (mX12_thrown q.2 (q.2 0 0) rfl) cwX12_thrown cvX12_thrown rfl mlL_132 ⟨by decide, by decide⟩ rfl hl.1 (Nat.le_of_ble_eq_true rfl) ⟨hcs.1, hcs.2⟩ dL_law_843 rfl (fun H locs hWL hS => ?_)
  refine lv_iload hx0 hb dL_law_846 (lv_at hl 1 rfl) ?_
  refine lv_icmp_eq (tgt := 853) hx0 hb dL_law_848 (by decide) (fun _ => ?_) (fun z => absurd ht z)
  refine lv_iload hx0 hb dL_law_853 (lv_at hl 1 rfl) ?_
  refine lv_if_ne (tgt := 870) hx0 hb dL_law_855 (by decide) (fun _ => ?_) (fun z => ?_)
  · refine lv_goto (tgt := 2459) hx0 hb dL_law_870 (by decide) ?_
    exact hend _ _ _ _ _ _ hrel hWL hS (lv_sub hl [2, 3, 4, 5, 6] rfl)
  obtain ⟨v9, e9⟩ : ∃ v, r.1 = .inr v := by
    rcases hk with ⟨v, e, _⟩ | ⟨_, e⟩ | ⟨_, e⟩ | ⟨_, e⟩
    · exact ⟨v, e⟩
    · rw [e] at z; exact absurd z (by decide)
    · rw [e] at z; exact absurd z (by decide)
    · rw [e] at z; exact absurd z (by decide)
  have e8 : ou r w = q.1.toInt64 := by unfold ou; rw [e9, hv v9 e9]
  refine lv_aload_n hx0 hb dL_law_858 rfl (lv_at hl 5 rfl) ?_
  refine lv_iconst (v := (0 : Int32)) hx0 hb dL_law_859 (by decide) ?_
  refine z_lald C hWL.2.2.1 dL_law_860 ?_
  refine lv_iload hx0 hb dL_law_861 (lv_at hl 0 rfl) ?_
  refine lv_i2l hx0 hb dL_law_863 rfl ?_
  refine W.lcmp hx0 hb dL_law_864 ?_
  rw [e8, lcmp0]
  refine lv_if_eq (tgt := 870) hx0 hb dL_law_865 (by decide) (fun _ => ?_) (fun z => absurd rfl z)
  refine lv_goto (tgt := 2459) hx0 hb dL_law_870 (by decide) ?_
  exact hend _ _ _ _ _ _ hrel hWL hS (lv_sub hl [2, 3, 4, 5, 6] rfl)
def Sim10 (Rel : Mem → Mem → Prop) : Prop := ∀ (σ τ : Mem) (x1 : Int32), Rel σ τ → ∃ (r : Rx) (q : Int32 × Mem) (k : Int32), fX11_scanOpening 0 x1 σ = some r ∧ fX12_scanOpening x1 τ = some q ∧ ((∃ v, r.1 = .inr v ∧ k = 0) ∨ (r.1 = .inl 2 ∧ k = 1) ∨ (r.1 = .inl 0 ∧ k = 2)) ∧ (∀ v, r.1 = .inr v → q.1 = v) ∧ q.2 0 0 = k ∧ Rel r.2 q.2
set_option maxRecDepth 100000 in
set_option maxHeartbeats 4000000 in
theorem lc_10 {p : Program} {l : Launch} {e : Env} {s : State} {m : MethodId} {args : Array Value} {below : List Frame} {meth : Method} {c : Code} {E : Ev} {a b o b0 N : Nat} {xs : Nat → Int32} {Q : State → Prop} {Rel : Mem → Mem → Prop} (S : Sim10 Rel) (C : Cx p l s m args meth c E cL_law 7 RL (some .boolean)) (hN : Nx s) (hE : E.2.1 = s.heap) (hX : va_X b0 N xs s s.heap) (hbl : b0 < s.heap.size) {x4 : Int32} (hin : ∀ j : Nat, j < 6 → vp_in (x4 + Int32.ofNat j) N) {σ τ : Mem} {w : Int64} {H : Heap} {locs : List Loc} {cells slots : Nat} {ls : Array Slot} (hcs : cells + 4 ≤ 601024 ∧ slots + 24 ≤ 7293034) (hrel : Rel σ τ) (hWL : WL E a b o σ τ w H) (hS : va_S (An s) s.heap H locs) (hl : lv_has ls 7 [(0, .ref b0), (1, .ref (a + 0)), (2, .ref (b + 0)), (3, .ref o), (4, .int x4)]) (hend : ∀ (σ τ : Mem) (w : Int64) (H : Heap) (locs : List Loc) (ls : Array Slot), Rel σ τ → WL E a b o σ τ w H → va_S (An s) s.heap H locs → lv_has ls 7 [(0, .ref b0), (1, .ref (a + 0)), (2, .ref (b + 0)), (3, .ref o), (4, .int x4)] → W p l e room_1 s m args below meth c H locs (cells + 4) (slots + 24) Q (F0 m 2459 ls [])) : W p l e room_1 s m args below meth c H locs cells slots Q (F0 m 873 ls []) := by
  have hx0 := C.1
  have hb := C.2.1
  have hbA : ¬ An s b0 := Nat.not_le.mpr hbl
  obtain ⟨r, q, k, hr, hq, hk, hv, ht, hrel⟩ := S σ τ (xs (x4 + (1 : Int32)).toNatClampNeg) hrel
  refine lv_aload_n hx0 hb dL_law_873 rfl (lv_at hl 1 rfl) ?_
  refine lv_aload_n hx0 hb dL_law_874 rfl (lv_at hl 0 rfl) ?_
  refine lv_iload hx0 hb dL_law_875 (lv_at hl 4 rfl) ?_
  refine lv_iconst (v := (1 : Int32)) hx0 hb dL_law_877 (by decide) ?_
  refine lv_iadd hx0 hb dL_law_878 ?_
  refine va_sld hx0 hb hX hbl hbA hS (hin 1 (by decide)) dL_law_879 ?_
  refine lv_aload_n hx0 hb dL_law_880 rfl (lv_at hl 3 rfl) ?_
  refine z_wrap (As := [.ref (a + 0), .int (xs (x4 + (1 : Int32)).toNatClampNeg), .ref o]) (rest := []) C hN hE hWL hS (mL_scanOpening (xs (x4 + (1 : Int32)).toNatClampNeg) σ r hr w k hk) cwL_scanOpening csL_scanOpening mlL_168 ⟨by decide, by decide⟩ rfl hl.1 (Nat.le_of_ble_eq_true rfl) ⟨Nat.le_trans (Nat.add_le_add_left (show 3 ≤ 4 by decide) _) hcs.1, Nat.le_trans (Nat.add_le_add_left (show 18 ≤ 24 by decide) _) hcs.2⟩ dL_law_881 rfl (fun H locs hWL hS => ?_)
  refine W.widen (k := cells + 4) (n := slots + 24) (Nat.add_le_add_left (by decide) _) (Nat.add_le_add_left (by decide) _) ?_
  refine lv_istore (lv' := [(5, .int k), (0, .ref b0), (1, .ref (a + 0)), (2, .ref (b + 0)), (3, .ref o), (4, .int x4)]) hx0 hb dL_law_884 hl (by decide) rfl (fun ls hl => ?_)
  refine lv_aload_n hx0 hb dL_law_886 rfl (lv_at hl 3 rfl) ?_
  refine lv_aload_n hx0 hb dL_law_887 rfl (lv_at hl 1 rfl) ?_
  refine lv_iload hx0 hb dL_law_888 (lv_at hl 5 rfl) ?_
  refine lv_iconst (v := (1 : Int32)) hx0 hb dL_law_890 (by decide) ?_
  refine lv_iadd hx0 hb dL_law_891 ?_
  refine va_sld hx0 hb hX hbl hbA hS (hin 1 (by decide)) dL_law_892 ?_
  refine z_callM (As := [.int (xs (x4 + (1 : Int32)).toNatClampNeg)]) (rest := []) C hE hWL hS (mX12_scanOpening (xs (x4 + (1 : Int32)).toNatClampNeg) τ q hq) cwX12_scanOpening cvX12_scanOpening rfl mlL_170 ⟨by decide, by decide⟩ rfl hl.1 (Nat.le_of_ble_eq_true rfl) ⟨hcs.1, hcs.2⟩ dL_law_893 rfl (fun H locs hWL hS => ?_)
  refine lv_istore (lv' := [(6, .int q.1), (5, .int k), (0, .ref b0), (1, .ref (a + 0)), (2, .ref (b + 0)), (3, .ref o), (4, .int x4)]) hx0 hb dL_law_896 hl (by decide) rfl (fun ls hl => ?_)
  refine lv_aload_n hx0 hb dL_law_898 rfl (lv_at hl 4 rfl) ?_
  refine z_callM (As := []) (rest := []) C hE hWL hS (mX12_thrown q.2 (q.2 0 0) rfl) cwX12_thrown cvX12_thrown rfl mlL_132 ⟨by decide, by decide⟩ rfl hl.1 (Nat.le_of_ble_eq_true rfl) ⟨hcs.1, hcs.2⟩ dL_law_899 rfl (fun H locs hWL hS => ?_)
  refine lv_iload hx0 hb dL_law_902 (lv_at hl 1 rfl) ?_
  refine lv_icmp_eq (tgt := 909) hx0 hb dL_law_904 (by decide) (fun _ => ?_) (fun z => absurd ht z)
  refine lv_iload hx0 hb dL_law_909 (lv_at hl 1 rfl) ?_
  refine lv_if_ne (tgt := 926) hx0 hb dL_law_911 (by decide) (fun _ => ?_) (fun z => ?_)
  · refine lv_goto (tgt := 2459) hx0 hb dL_law_926 (by decide) ?_
    exact hend _ _ _ _ _ _ hrel hWL hS (lv_sub hl [2, 3, 4, 5, 6] rfl)
  obtain ⟨v9, e9⟩ : ∃ v, r.1 = .inr v := by
    rcases hk with ⟨v, e, _⟩ | ⟨_, e⟩ | ⟨_, e⟩
    · exact ⟨v, e⟩
    · rw [e] at z; exact absurd z (by decide)
    · rw [e] at z; exact absurd z (by decide)
  have e8 : ou r w = q.1.toInt64 := by unfold ou; rw [e9, hv v9 e9]
  refine lv_aload_n hx0 hb dL_law_914 rfl (lv_at hl 5 rfl) ?_
  refine lv_iconst (v := (0 : Int32)) hx0 hb dL_law_915 (by decide) ?_
  refine z_lald C hWL.2.2.1 dL_law_916 ?_
  refine lv_iload hx0 hb dL_law_917 (lv_at hl 0 rfl) ?_
  refine lv_i2l hx0 hb dL_law_919 rfl ?_
  refine W.lcmp hx0 hb dL_law_920 ?_
  rw [e8, lcmp0]
  refine lv_if_eq (tgt := 926) hx0 hb dL_law_921 (by decide) (fun _ => ?_) (fun z => absurd rfl z)
  refine lv_goto (tgt := 2459) hx0 hb dL_law_926 (by decide) ?_
  exact hend _ _ _ _ _ _ hrel hWL hS (lv_sub hl [2, 3, 4, 5, 6] rfl)
def Sim11 (Rel : Mem → Mem → Prop) : Prop := ∀ (σ τ : Mem) (x1 : Int32) (x2 : Int32), Rel σ τ → ∃ (r : Rx) (q : Int32 × Mem) (k : Int32), fX11_scanSlip 0 x1 x2 σ = some r ∧ fX12_scanSlip x1 x2 τ = some q ∧ ((∃ v, r.1 = .inr v ∧ k = 0) ∨ (r.1 = .inl 2 ∧ k = 1) ∨ (r.1 = .inl 0 ∧ k = 2)) ∧ (∀ v, r.1 = .inr v → q.1 = v) ∧ q.2 0 0 = k ∧ Rel r.2 q.2
set_option maxRecDepth 100000 in
set_option maxHeartbeats 4000000 in
theorem lc_11 {p : Program} {l : Launch} {e : Env} {s : State} {m : MethodId} {args : Array Value} {below : List Frame} {meth : Method} {c : Code} {E : Ev} {a b o b0 N : Nat} {xs : Nat → Int32} {Q : State → Prop} {Rel : Mem → Mem → Prop} (S : Sim11 Rel) (C : Cx p l s m args meth c E cL_law 7 RL (some .boolean)) (hN : Nx s) (hE : E.2.1 = s.heap) (hX : va_X b0 N xs s s.heap) (hbl : b0 < s.heap.size) {x4 : Int32} (hin : ∀ j : Nat, j < 6 → vp_in (x4 + Int32.ofNat j) N) {σ τ : Mem} {w : Int64} {H : Heap} {locs : List Loc} {cells slots : Nat} {ls : Array Slot} (hcs : cells + 4 ≤ 601024 ∧ slots + 24 ≤ 7293034) (hrel : Rel σ τ) (hWL : WL E a b o σ τ w H) (hS : va_S (An s) s.heap H locs) (hl : lv_has ls 7 [(0, .ref b0), (1, .ref (a + 0)), (2, .ref (b + 0)), (3, .ref o), (4, .int x4)]) (hend : ∀ (σ τ : Mem) (w : Int64) (H : Heap) (locs : List Loc) (ls : Array Slot), Rel σ τ → WL E a b o σ τ w H → va_S (An s) s.heap H locs → lv_has ls 7 [(0, .ref b0), (1, .ref (a + 0)), (2, .ref (b + 0)), (3, .ref o), (4, .int x4)] → W p l e room_1 s m args below meth c H locs (cells + 4) (slots + 24) Q (F0 m 2459 ls [])) : W p l e room_1 s m args below meth c H locs cells slots Q (F0 m 929 ls []) := by
  have hx0 := C.1
  have hb := C.2.1
  have hbA : ¬ An s b0 := Nat.not_le.mpr hbl
  obtain ⟨r, q, k, hr, hq, hk, hv, ht, hrel⟩ := S σ τ (xs (x4 + (1 : Int32)).toNatClampNeg) (xs (x4 + (2 : Int32)).toNatClampNeg) hrel
  refine lv_aload_n hx0 hb dL_law_929 rfl (lv_at hl 1 rfl) ?_
  refine lv_aload_n hx0 hb dL_law_930 rfl (lv_at hl 0 rfl) ?_
  refine lv_iload hx0 hb dL_law_931 (lv_at hl 4 rfl) ?_
  refine lv_iconst (v := (1 : Int32)) hx0 hb dL_law_933 (by decide) ?_
  refine lv_iadd hx0 hb dL_law_934 ?_
  refine va_sld hx0 hb hX hbl hbA hS (hin 1 (by decide)) dL_law_935 ?_
  refine lv_aload_n hx0 hb dL_law_936 rfl (lv_at hl 0 rfl) ?_
  refine lv_iload hx0 hb dL_law_937 (lv_at hl 4 rfl) ?_
  refine lv_iconst (v := (2 : Int32)) hx0 hb dL_law_939 (by decide) ?_
  refine lv_iadd hx0 hb dL_law_940 ?_
  refine va_sld hx0 hb hX hbl hbA hS (hin 2 (by decide)) dL_law_941 ?_
  refine lv_aload_n hx0 hb dL_law_942 rfl (lv_at hl 3 rfl) ?_
  refine z_wrap (As := [.ref (a + 0), .int (xs (x4 + (1 : Int32)).toNatClampNeg), .int (xs (x4 + (2 : Int32)).toNatClampNeg), .ref o]) (rest := []) C hN hE hWL hS (mL_scanSlip (xs (x4 + (1 : Int32)).toNatClampNeg) (xs (x4 + (2 : Int32)).toNatClampNeg) σ r hr w k hk) cwL_scanSlip csL_scanSlip mlL_171 ⟨by decide, by decide⟩ rfl hl.1 (Nat.le_of_ble_eq_true rfl) ⟨Nat.le_trans (Nat.add_le_add_left (show 4 ≤ 4 by decide) _) hcs.1, Nat.le_trans (Nat.add_le_add_left (show 24 ≤ 24 by decide) _) hcs.2⟩ dL_law_943 rfl (fun H locs hWL hS => ?_)
  refine W.widen (k := cells + 4) (n := slots + 24) (Nat.add_le_add_left (by decide) _) (Nat.add_le_add_left (by decide) _) ?_
  refine lv_istore (lv' := [(5, .int k), (0, .ref b0), (1, .ref (a + 0)), (2, .ref (b + 0)), (3, .ref o), (4, .int x4)]) hx0 hb dL_law_946 hl (by decide) rfl (fun ls hl => ?_)
  refine lv_aload_n hx0 hb dL_law_948 rfl (lv_at hl 3 rfl) ?_
  refine lv_aload_n hx0 hb dL_law_949 rfl (lv_at hl 1 rfl) ?_
  refine lv_iload hx0 hb dL_law_950 (lv_at hl 5 rfl) ?_
  refine lv_iconst (v := (1 : Int32)) hx0 hb dL_law_952 (by decide) ?_
  refine lv_iadd hx0 hb dL_law_953 ?_
  refine va_sld hx0 hb hX hbl hbA hS (hin 1 (by decide)) dL_law_954 ?_
  refine lv_aload_n hx0 hb dL_law_955 rfl (lv_at hl 1 rfl) ?_
  refine lv_iload hx0 hb dL_law_956 (lv_at hl 5 rfl) ?_
  refine lv_iconst (v := (2 : Int32)) hx0 hb dL_law_958 (by decide) ?_
  refine lv_iadd hx0 hb dL_law_959 ?_
  refine va_sld hx0 hb hX hbl hbA hS (hin 2 (by decide)) dL_law_960 ?_
  refine z_callM (As := [.int (xs (x4 + (1 : Int32)).toNatClampNeg), .int (xs (x4 + (2 : Int32)).toNatClampNeg)]) (rest := []) C hE hWL hS (mX12_scanSlip (xs (x4 + (1 : Int32)).toNatClampNeg) (xs (x4 + (2 : Int32)).toNatClampNeg) τ q hq) cwX12_scanSlip cvX12_scanSlip rfl mlL_173 ⟨by decide, by decide⟩ rfl hl.1 (Nat.le_of_ble_eq_true rfl) ⟨hcs.1, hcs.2⟩ dL_law_961 rfl (fun H locs hWL hS => ?_)
  refine lv_istore (lv' := [(6, .int q.1), (5, .int k), (0, .ref b0), (1, .ref (a + 0)), (2, .ref (b + 0)), (3, .ref o), (4, .int x4)]) hx0 hb dL_law_964 hl (by decide) rfl (fun ls hl => ?_)
  refine lv_aload_n hx0 hb dL_law_966 rfl (lv_at hl 4 rfl) ?_
  refine z_callM (As := []) (rest := []) C hE hWL hS (mX12_thrown q.2 (q.2 0 0) rfl) cwX12_thrown cvX12_thrown rfl mlL_132 ⟨by decide, by decide⟩ rfl hl.1 (Nat.le_of_ble_eq_true rfl) ⟨hcs.1, hcs.2⟩ dL_law_967 rfl (fun H locs hWL hS => ?_)
  refine lv_iload hx0 hb dL_law_970 (lv_at hl 1 rfl) ?_
  refine lv_icmp_eq (tgt := 977) hx0 hb dL_law_972 (by decide) (fun _ => ?_) (fun z => absurd ht z)
  refine lv_iload hx0 hb dL_law_977 (lv_at hl 1 rfl) ?_
  refine lv_if_ne (tgt := 994) hx0 hb dL_law_979 (by decide) (fun _ => ?_) (fun z => ?_)
  · refine lv_goto (tgt := 2459) hx0 hb dL_law_994 (by decide) ?_
    exact hend _ _ _ _ _ _ hrel hWL hS (lv_sub hl [2, 3, 4, 5, 6] rfl)
  obtain ⟨v9, e9⟩ : ∃ v, r.1 = .inr v := by
    rcases hk with ⟨v, e, _⟩ | ⟨_, e⟩ | ⟨_, e⟩
    · exact ⟨v, e⟩
    · rw [e] at z; exact absurd z (by decide)
    · rw [e] at z; exact absurd z (by decide)
  have e8 : ou r w = q.1.toInt64 := by unfold ou; rw [e9, hv v9 e9]
  refine lv_aload_n hx0 hb dL_law_982 rfl (lv_at hl 5 rfl) ?_
  refine lv_iconst (v := (0 : Int32)) hx0 hb dL_law_983 (by decide) ?_
  refine z_lald C hWL.2.2.1 dL_law_984 ?_
  refine lv_iload hx0 hb dL_law_985 (lv_at hl 0 rfl) ?_
  refine lv_i2l hx0 hb dL_law_987 rfl ?_
  refine W.lcmp hx0 hb dL_law_988 ?_
  rw [e8, lcmp0]
  refine lv_if_eq (tgt := 994) hx0 hb dL_law_989 (by decide) (fun _ => ?_) (fun z => absurd rfl z)
  refine lv_goto (tgt := 2459) hx0 hb dL_law_994 (by decide) ?_
  exact hend _ _ _ _ _ _ hrel hWL hS (lv_sub hl [2, 3, 4, 5, 6] rfl)
def Sim12 (Rel : Mem → Mem → Prop) : Prop := ∀ (σ τ : Mem) (x1 : Int32), Rel σ τ → ∃ (r : Rx) (q : Int32 × Mem) (k : Int32), fX11_removeScan 0 x1 σ = some r ∧ fX12_removeScan x1 τ = some q ∧ ((∃ v, r.1 = .inr v ∧ k = 0) ∨ (r.1 = .inl 2 ∧ k = 1)) ∧ (∀ v, r.1 = .inr v → q.1 = v) ∧ q.2 0 0 = k ∧ Rel r.2 q.2
set_option maxRecDepth 100000 in
set_option maxHeartbeats 4000000 in
theorem lc_12 {p : Program} {l : Launch} {e : Env} {s : State} {m : MethodId} {args : Array Value} {below : List Frame} {meth : Method} {c : Code} {E : Ev} {a b o b0 N : Nat} {xs : Nat → Int32} {Q : State → Prop} {Rel : Mem → Mem → Prop} (S : Sim12 Rel) (C : Cx p l s m args meth c E cL_law 7 RL (some .boolean)) (hN : Nx s) (hE : E.2.1 = s.heap) (hX : va_X b0 N xs s s.heap) (hbl : b0 < s.heap.size) {x4 : Int32} (hin : ∀ j : Nat, j < 6 → vp_in (x4 + Int32.ofNat j) N) {σ τ : Mem} {w : Int64} {H : Heap} {locs : List Loc} {cells slots : Nat} {ls : Array Slot} (hcs : cells + 4 ≤ 601024 ∧ slots + 24 ≤ 7293034) (hrel : Rel σ τ) (hWL : WL E a b o σ τ w H) (hS : va_S (An s) s.heap H locs) (hl : lv_has ls 7 [(0, .ref b0), (1, .ref (a + 0)), (2, .ref (b + 0)), (3, .ref o), (4, .int x4)]) (hend : ∀ (σ τ : Mem) (w : Int64) (H : Heap) (locs : List Loc) (ls : Array Slot), Rel σ τ → WL E a b o σ τ w H → va_S (An s) s.heap H locs → lv_has ls 7 [(0, .ref b0), (1, .ref (a + 0)), (2, .ref (b + 0)), (3, .ref o), (4, .int x4)] → W p l e room_1 s m args below meth c H locs (cells + 4) (slots + 24) Q (F0 m 2459 ls [])) : W p l e room_1 s m args below meth c H locs cells slots Q (F0 m 997 ls []) := by
  have hx0 := C.1
  have hb := C.2.1
  have hbA : ¬ An s b0 := Nat.not_le.mpr hbl
  obtain ⟨r, q, k, hr, hq, hk, hv, ht, hrel⟩ := S σ τ (xs (x4 + (1 : Int32)).toNatClampNeg) hrel
  refine lv_aload_n hx0 hb dL_law_997 rfl (lv_at hl 1 rfl) ?_
  refine lv_aload_n hx0 hb dL_law_998 rfl (lv_at hl 0 rfl) ?_
  refine lv_iload hx0 hb dL_law_999 (lv_at hl 4 rfl) ?_
  refine lv_iconst (v := (1 : Int32)) hx0 hb dL_law_1001 (by decide) ?_
  refine lv_iadd hx0 hb dL_law_1002 ?_
  refine va_sld hx0 hb hX hbl hbA hS (hin 1 (by decide)) dL_law_1003 ?_
  refine lv_aload_n hx0 hb dL_law_1004 rfl (lv_at hl 3 rfl) ?_
  refine z_wrap (As := [.ref (a + 0), .int (xs (x4 + (1 : Int32)).toNatClampNeg), .ref o]) (rest := []) C hN hE hWL hS (mL_removeScan (xs (x4 + (1 : Int32)).toNatClampNeg) σ r hr w k hk) cwL_removeScan csL_removeScan mlL_174 ⟨by decide, by decide⟩ rfl hl.1 (Nat.le_of_ble_eq_true rfl) ⟨Nat.le_trans (Nat.add_le_add_left (show 1 ≤ 4 by decide) _) hcs.1, Nat.le_trans (Nat.add_le_add_left (show 6 ≤ 24 by decide) _) hcs.2⟩ dL_law_1005 rfl (fun H locs hWL hS => ?_)
  refine W.widen (k := cells + 4) (n := slots + 24) (Nat.add_le_add_left (by decide) _) (Nat.add_le_add_left (by decide) _) ?_
  refine lv_istore (lv' := [(5, .int k), (0, .ref b0), (1, .ref (a + 0)), (2, .ref (b + 0)), (3, .ref o), (4, .int x4)]) hx0 hb dL_law_1008 hl (by decide) rfl (fun ls hl => ?_)
  refine lv_aload_n hx0 hb dL_law_1010 rfl (lv_at hl 3 rfl) ?_
  refine lv_aload_n hx0 hb dL_law_1011 rfl (lv_at hl 1 rfl) ?_
  refine lv_iload hx0 hb dL_law_1012 (lv_at hl 5 rfl) ?_
  refine lv_iconst (v := (1 : Int32)) hx0 hb dL_law_1014 (by decide) ?_
  refine lv_iadd hx0 hb dL_law_1015 ?_
  refine va_sld hx0 hb hX hbl hbA hS (hin 1 (by decide)) dL_law_1016 ?_
  refine z_callM (As := [.int (xs (x4 + (1 : Int32)).toNatClampNeg)]) (rest := []) C hE hWL hS (mX12_removeScan (xs (x4 + (1 : Int32)).toNatClampNeg) τ q hq) cwX12_removeScan cvX12_removeScan rfl mlL_176 ⟨by decide, by decide⟩ rfl hl.1 (Nat.le_of_ble_eq_true rfl) ⟨hcs.1, hcs.2⟩ dL_law_1017 rfl (fun H locs hWL hS => ?_)
  refine lv_istore (lv' := [(6, .int q.1), (5, .int k), (0, .ref b0), (1, .ref (a + 0)), (2, .ref (b + 0)), (3, .ref o), (4, .int x4)]) hx0 hb dL_law_1020 hl (by decide) rfl (fun ls hl => ?_)
  refine lv_aload_n hx0 hb dL_law_1022 rfl (lv_at hl 4 rfl) ?_
  refine z_callM (As := []) (rest := []) C hE hWL hS (mX12_thrown q.2 (q.2 0 0) rfl) cwX12_thrown cvX12_thrown rfl mlL_132 ⟨by decide, by decide⟩ rfl hl.1 (Nat.le_of_ble_eq_true rfl) ⟨hcs.1, hcs.2⟩ dL_law_1023 rfl (fun H locs hWL hS => ?_)
  refine lv_iload hx0 hb dL_law_1026 (lv_at hl 1 rfl) ?_
  refine lv_icmp_eq (tgt := 1033) hx0 hb dL_law_1028 (by decide) (fun _ => ?_) (fun z => absurd ht z)
  refine lv_iload hx0 hb dL_law_1033 (lv_at hl 1 rfl) ?_
  refine lv_if_ne (tgt := 1050) hx0 hb dL_law_1035 (by decide) (fun _ => ?_) (fun z => ?_)
  · refine lv_goto (tgt := 2459) hx0 hb dL_law_1050 (by decide) ?_
    exact hend _ _ _ _ _ _ hrel hWL hS (lv_sub hl [2, 3, 4, 5, 6] rfl)
  obtain ⟨v9, e9⟩ : ∃ v, r.1 = .inr v := by
    rcases hk with ⟨v, e, _⟩ | ⟨_, e⟩
    · exact ⟨v, e⟩
    · rw [e] at z; exact absurd z (by decide)
  have e8 : ou r w = q.1.toInt64 := by unfold ou; rw [e9, hv v9 e9]
  refine lv_aload_n hx0 hb dL_law_1038 rfl (lv_at hl 5 rfl) ?_
  refine lv_iconst (v := (0 : Int32)) hx0 hb dL_law_1039 (by decide) ?_
  refine z_lald C hWL.2.2.1 dL_law_1040 ?_
  refine lv_iload hx0 hb dL_law_1041 (lv_at hl 0 rfl) ?_
  refine lv_i2l hx0 hb dL_law_1043 rfl ?_
  refine W.lcmp hx0 hb dL_law_1044 ?_
  rw [e8, lcmp0]
  refine lv_if_eq (tgt := 1050) hx0 hb dL_law_1045 (by decide) (fun _ => ?_) (fun z => absurd rfl z)
  refine lv_goto (tgt := 2459) hx0 hb dL_law_1050 (by decide) ?_
  exact hend _ _ _ _ _ _ hrel hWL hS (lv_sub hl [2, 3, 4, 5, 6] rfl)
def Sim13 (Rel : Mem → Mem → Prop) : Prop := ∀ (σ τ : Mem) (x1 : Int32) (x2 : Int32), Rel σ τ → ∃ (r : Rx) (q : Int32 × Mem) (k : Int32), fX11_moveScan 0 x1 x2 σ = some r ∧ fX12_moveScan x1 x2 τ = some q ∧ ((∃ v, r.1 = .inr v ∧ k = 0) ∨ (r.1 = .inl 2 ∧ k = 1)) ∧ (∀ v, r.1 = .inr v → q.1 = v) ∧ q.2 0 0 = k ∧ Rel r.2 q.2
set_option maxRecDepth 100000 in
set_option maxHeartbeats 4000000 in
theorem lc_13 {p : Program} {l : Launch} {e : Env} {s : State} {m : MethodId} {args : Array Value} {below : List Frame} {meth : Method} {c : Code} {E : Ev} {a b o b0 N : Nat} {xs : Nat → Int32} {Q : State → Prop} {Rel : Mem → Mem → Prop} (S : Sim13 Rel) (C : Cx p l s m args meth c E cL_law 7 RL (some .boolean)) (hN : Nx s) (hE : E.2.1 = s.heap) (hX : va_X b0 N xs s s.heap) (hbl : b0 < s.heap.size) {x4 : Int32} (hin : ∀ j : Nat, j < 6 → vp_in (x4 + Int32.ofNat j) N) {σ τ : Mem} {w : Int64} {H : Heap} {locs : List Loc} {cells slots : Nat} {ls : Array Slot} (hcs : cells + 4 ≤ 601024 ∧ slots + 24 ≤ 7293034) (hrel : Rel σ τ) (hWL : WL E a b o σ τ w H) (hS : va_S (An s) s.heap H locs) (hl : lv_has ls 7 [(0, .ref b0), (1, .ref (a + 0)), (2, .ref (b + 0)), (3, .ref o), (4, .int x4)]) (hend : ∀ (σ τ : Mem) (w : Int64) (H : Heap) (locs : List Loc) (ls : Array Slot), Rel σ τ → WL E a b o σ τ w H → va_S (An s) s.heap H locs → lv_has ls 7 [(0, .ref b0), (1, .ref (a + 0)), (2, .ref (b + 0)), (3, .ref o), (4, .int x4)] → W p l e room_1 s m args below meth c H locs (cells + 4) (slots + 24) Q (F0 m 2459 ls [])) : W p l e room_1 s m args below meth c H locs cells slots Q (F0 m 1053 ls []) := by
  have hx0 := C.1
  have hb := C.2.1
  have hbA : ¬ An s b0 := Nat.not_le.mpr hbl
  obtain ⟨r, q, k, hr, hq, hk, hv, ht, hrel⟩ := S σ τ (xs (x4 + (1 : Int32)).toNatClampNeg) (xs (x4 + (2 : Int32)).toNatClampNeg) hrel
  refine lv_aload_n hx0 hb dL_law_1053 rfl (lv_at hl 1 rfl) ?_
  refine lv_aload_n hx0 hb dL_law_1054 rfl (lv_at hl 0 rfl) ?_
  refine lv_iload hx0 hb dL_law_1055 (lv_at hl 4 rfl) ?_
  refine lv_iconst (v := (1 : Int32)) hx0 hb dL_law_1057 (by decide) ?_
  refine lv_iadd hx0 hb dL_law_1058 ?_
  refine va_sld hx0 hb hX hbl hbA hS (hin 1 (by decide)) dL_law_1059 ?_
  refine lv_aload_n hx0 hb dL_law_1060 rfl (lv_at hl 0 rfl) ?_
  refine lv_iload hx0 hb dL_law_1061 (lv_at hl 4 rfl) ?_
  refine lv_iconst (v := (2 : Int32)) hx0 hb dL_law_1063 (by decide) ?_
  refine lv_iadd hx0 hb dL_law_1064 ?_
  refine va_sld hx0 hb hX hbl hbA hS (hin 2 (by decide)) dL_law_1065 ?_
  refine lv_aload_n hx0 hb dL_law_1066 rfl (lv_at hl 3 rfl) ?_
  refine z_wrap (As := [.ref (a + 0), .int (xs (x4 + (1 : Int32)).toNatClampNeg), .int (xs (x4 + (2 : Int32)).toNatClampNeg), .ref o]) (rest := []) C hN hE hWL hS (mL_moveScan (xs (x4 + (1 : Int32)).toNatClampNeg) (xs (x4 + (2 : Int32)).toNatClampNeg) σ r hr w k hk) cwL_moveScan csL_moveScan mlL_177 ⟨by decide, by decide⟩ rfl hl.1 (Nat.le_of_ble_eq_true rfl) ⟨Nat.le_trans (Nat.add_le_add_left (show 2 ≤ 4 by decide) _) hcs.1, Nat.le_trans (Nat.add_le_add_left (show 12 ≤ 24 by decide) _) hcs.2⟩ dL_law_1067 rfl (fun H locs hWL hS => ?_)
  refine W.widen (k := cells + 4) (n := slots + 24) (Nat.add_le_add_left (by decide) _) (Nat.add_le_add_left (by decide) _) ?_
  refine lv_istore (lv' := [(5, .int k), (0, .ref b0), (1, .ref (a + 0)), (2, .ref (b + 0)), (3, .ref o), (4, .int x4)]) hx0 hb dL_law_1070 hl (by decide) rfl (fun ls hl => ?_)
  refine lv_aload_n hx0 hb dL_law_1072 rfl (lv_at hl 3 rfl) ?_
  refine lv_aload_n hx0 hb dL_law_1073 rfl (lv_at hl 1 rfl) ?_
  refine lv_iload hx0 hb dL_law_1074 (lv_at hl 5 rfl) ?_
  refine lv_iconst (v := (1 : Int32)) hx0 hb dL_law_1076 (by decide) ?_
  refine lv_iadd hx0 hb dL_law_1077 ?_
  refine va_sld hx0 hb hX hbl hbA hS (hin 1 (by decide)) dL_law_1078 ?_
  refine lv_aload_n hx0 hb dL_law_1079 rfl (lv_at hl 1 rfl) ?_
  refine lv_iload hx0 hb dL_law_1080 (lv_at hl 5 rfl) ?_
  refine lv_iconst (v := (2 : Int32)) hx0 hb dL_law_1082 (by decide) ?_
  refine lv_iadd hx0 hb dL_law_1083 ?_
  refine va_sld hx0 hb hX hbl hbA hS (hin 2 (by decide)) dL_law_1084 ?_
  refine z_callM (As := [.int (xs (x4 + (1 : Int32)).toNatClampNeg), .int (xs (x4 + (2 : Int32)).toNatClampNeg)]) (rest := []) C hE hWL hS (mX12_moveScan (xs (x4 + (1 : Int32)).toNatClampNeg) (xs (x4 + (2 : Int32)).toNatClampNeg) τ q hq) cwX12_moveScan cvX12_moveScan rfl mlL_179 ⟨by decide, by decide⟩ rfl hl.1 (Nat.le_of_ble_eq_true rfl) ⟨hcs.1, hcs.2⟩ dL_law_1085 rfl (fun H locs hWL hS => ?_)
  refine lv_istore (lv' := [(6, .int q.1), (5, .int k), (0, .ref b0), (1, .ref (a + 0)), (2, .ref (b + 0)), (3, .ref o), (4, .int x4)]) hx0 hb dL_law_1088 hl (by decide) rfl (fun ls hl => ?_)
  refine lv_aload_n hx0 hb dL_law_1090 rfl (lv_at hl 4 rfl) ?_
  refine z_callM (As := []) (rest := []) C hE hWL hS (mX12_thrown q.2 (q.2 0 0) rfl) cwX12_thrown cvX12_thrown rfl mlL_132 ⟨by decide, by decide⟩ rfl hl.1 (Nat.le_of_ble_eq_true rfl) ⟨hcs.1, hcs.2⟩ dL_law_1091 rfl (fun H locs hWL hS => ?_)
  refine lv_iload hx0 hb dL_law_1094 (lv_at hl 1 rfl) ?_
  refine lv_icmp_eq (tgt := 1101) hx0 hb dL_law_1096 (by decide) (fun _ => ?_) (fun z => absurd ht z)
  refine lv_iload hx0 hb dL_law_1101 (lv_at hl 1 rfl) ?_
  refine lv_if_ne (tgt := 1118) hx0 hb dL_law_1103 (by decide) (fun _ => ?_) (fun z => ?_)
  · refine lv_goto (tgt := 2459) hx0 hb dL_law_1118 (by decide) ?_
    exact hend _ _ _ _ _ _ hrel hWL hS (lv_sub hl [2, 3, 4, 5, 6] rfl)
  obtain ⟨v9, e9⟩ : ∃ v, r.1 = .inr v := by
    rcases hk with ⟨v, e, _⟩ | ⟨_, e⟩
    · exact ⟨v, e⟩
    · rw [e] at z; exact absurd z (by decide)
  have e8 : ou r w = q.1.toInt64 := by unfold ou; rw [e9, hv v9 e9]
  refine lv_aload_n hx0 hb dL_law_1106 rfl (lv_at hl 5 rfl) ?_
  refine lv_iconst (v := (0 : Int32)) hx0 hb dL_law_1107 (by decide) ?_
  refine z_lald C hWL.2.2.1 dL_law_1108 ?_
  refine lv_iload hx0 hb dL_law_1109 (lv_at hl 0 rfl) ?_
  refine lv_i2l hx0 hb dL_law_1111 rfl ?_
  refine W.lcmp hx0 hb dL_law_1112 ?_
  rw [e8, lcmp0]
  refine lv_if_eq (tgt := 1118) hx0 hb dL_law_1113 (by decide) (fun _ => ?_) (fun z => absurd rfl z)
  refine lv_goto (tgt := 2459) hx0 hb dL_law_1118 (by decide) ?_
  exact hend _ _ _ _ _ _ hrel hWL hS (lv_sub hl [2, 3, 4, 5, 6] rfl)
def Sim14 (Rel : Mem → Mem → Prop) : Prop := ∀ (σ τ : Mem), Rel σ τ → ∃ (v : Int32) (σ' τ' : Mem), fX11_sortScans 0 σ = some (v, σ') ∧ fX12_sortScans τ = some (v, τ') ∧ Rel σ' τ'
set_option maxRecDepth 100000 in
set_option maxHeartbeats 4000000 in
theorem lc_14 {p : Program} {l : Launch} {e : Env} {s : State} {m : MethodId} {args : Array Value} {below : List Frame} {meth : Method} {c : Code} {E : Ev} {a b o b0 N : Nat} {xs : Nat → Int32} {Q : State → Prop} {Rel : Mem → Mem → Prop} (S : Sim14 Rel) (C : Cx p l s m args meth c E cL_law 7 RL (some .boolean)) (hN : Nx s) (hE : E.2.1 = s.heap) (hX : va_X b0 N xs s s.heap) (hbl : b0 < s.heap.size) {x4 : Int32} (hin : ∀ j : Nat, j < 6 → vp_in (x4 + Int32.ofNat j) N) {σ τ : Mem} {w : Int64} {H : Heap} {locs : List Loc} {cells slots : Nat} {ls : Array Slot} (hcs : cells + 4 ≤ 601024 ∧ slots + 24 ≤ 7293034) (hrel : Rel σ τ) (hWL : WL E a b o σ τ w H) (hS : va_S (An s) s.heap H locs) (hl : lv_has ls 7 [(0, .ref b0), (1, .ref (a + 0)), (2, .ref (b + 0)), (3, .ref o), (4, .int x4)]) (hend : ∀ (σ τ : Mem) (w : Int64) (H : Heap) (locs : List Loc) (ls : Array Slot), Rel σ τ → WL E a b o σ τ w H → va_S (An s) s.heap H locs → lv_has ls 7 [(0, .ref b0), (1, .ref (a + 0)), (2, .ref (b + 0)), (3, .ref o), (4, .int x4)] → W p l e room_1 s m args below meth c H locs (cells + 4) (slots + 24) Q (F0 m 2459 ls [])) : W p l e room_1 s m args below meth c H locs cells slots Q (F0 m 1121 ls []) := by
  have hx0 := C.1
  have hb := C.2.1
  have hbA : ¬ An s b0 := Nat.not_le.mpr hbl
  obtain ⟨v, σ1, τ1, hr, hq, hrel⟩ := S σ τ  hrel
  refine lv_aload_n hx0 hb dL_law_1121 rfl (lv_at hl 1 rfl) ?_
  refine z_callX (As := []) (rest := []) C hE hWL hS (mX11_sortScans 0 kd0 σ (v, σ1) hr) cwX11_sortScans cvX11_sortScans rfl mlL_180 ⟨by decide, by decide⟩ rfl hl.1 (Nat.le_of_ble_eq_true rfl) ⟨by show cells ≤ 601024; omega, by show slots ≤ 7293034; omega⟩ dL_law_1122 rfl (fun H locs hWL hS => ?_)
  refine lv_aload_n hx0 hb dL_law_1125 rfl (lv_at hl 2 rfl) ?_
  refine z_callM (As := []) (rest := [.int v]) C hE hWL hS (mX12_sortScans  τ (v, τ1) hq) cwX12_sortScans cvX12_sortScans rfl mlL_183 ⟨by decide, by decide⟩ rfl hl.1 (Nat.le_of_ble_eq_true rfl) ⟨by show cells ≤ 601024; omega, by show slots ≤ 7293034; omega⟩ dL_law_1126 rfl (fun H locs hWL hS => ?_)
  refine lv_icmp_eq (tgt := 2459) hx0 hb dL_law_1129 (by decide) (fun _ => ?_) (fun z => absurd rfl z)
  refine W.widen (k := cells + 4) (n := slots + 24) (by omega) (by omega) ?_
  exact hend _ _ _ _ _ _ hrel hWL hS (lv_sub hl [0, 1, 2, 3, 4] rfl)
def Sim15 (Rel : Mem → Mem → Prop) : Prop := ∀ (σ τ : Mem) (x1 : Int32), Rel σ τ → ∃ (r : Rx) (q : Int32 × Mem) (k : Int32), fX11_turn 0 x1 σ = some r ∧ fX12_turn x1 τ = some q ∧ ((∃ v, r.1 = .inr v ∧ k = 0) ∨ (r.1 = .inl 1 ∧ k = 1) ∨ (r.1 = .inl 0 ∧ k = 2)) ∧ (∀ v, r.1 = .inr v → q.1 = v) ∧ q.2 0 0 = k ∧ Rel r.2 q.2
set_option maxRecDepth 100000 in
set_option maxHeartbeats 4000000 in
theorem lc_15 {p : Program} {l : Launch} {e : Env} {s : State} {m : MethodId} {args : Array Value} {below : List Frame} {meth : Method} {c : Code} {E : Ev} {a b o b0 N : Nat} {xs : Nat → Int32} {Q : State → Prop} {Rel : Mem → Mem → Prop} (S : Sim15 Rel) (C : Cx p l s m args meth c E cL_law 7 RL (some .boolean)) (hN : Nx s) (hE : E.2.1 = s.heap) (hX : va_X b0 N xs s s.heap) (hbl : b0 < s.heap.size) {x4 : Int32} (hin : ∀ j : Nat, j < 6 → vp_in (x4 + Int32.ofNat j) N) {σ τ : Mem} {w : Int64} {H : Heap} {locs : List Loc} {cells slots : Nat} {ls : Array Slot} (hcs : cells + 4 ≤ 601024 ∧ slots + 24 ≤ 7293034) (hrel : Rel σ τ) (hWL : WL E a b o σ τ w H) (hS : va_S (An s) s.heap H locs) (hl : lv_has ls 7 [(0, .ref b0), (1, .ref (a + 0)), (2, .ref (b + 0)), (3, .ref o), (4, .int x4)]) (hend : ∀ (σ τ : Mem) (w : Int64) (H : Heap) (locs : List Loc) (ls : Array Slot), Rel σ τ → WL E a b o σ τ w H → va_S (An s) s.heap H locs → lv_has ls 7 [(0, .ref b0), (1, .ref (a + 0)), (2, .ref (b + 0)), (3, .ref o), (4, .int x4)] → W p l e room_1 s m args below meth c H locs (cells + 4) (slots + 24) Q (F0 m 2459 ls [])) : W p l e room_1 s m args below meth c H locs cells slots Q (F0 m 1134 ls []) := by
  have hx0 := C.1
  have hb := C.2.1
  have hbA : ¬ An s b0 := Nat.not_le.mpr hbl
  obtain ⟨r, q, k, hr, hq, hk, hv, ht, hrel⟩ := S σ τ (xs (x4 + (1 : Int32)).toNatClampNeg) hrel
  refine lv_aload_n hx0 hb dL_law_1134 rfl (lv_at hl 1 rfl) ?_
  refine lv_aload_n hx0 hb dL_law_1135 rfl (lv_at hl 0 rfl) ?_
  refine lv_iload hx0 hb dL_law_1136 (lv_at hl 4 rfl) ?_
  refine lv_iconst (v := (1 : Int32)) hx0 hb dL_law_1138 (by decide) ?_
  refine lv_iadd hx0 hb dL_law_1139 ?_
  refine va_sld hx0 hb hX hbl hbA hS (hin 1 (by decide)) dL_law_1140 ?_
  refine lv_aload_n hx0 hb dL_law_1141 rfl (lv_at hl 3 rfl) ?_
  refine z_wrap (As := [.ref (a + 0), .int (xs (x4 + (1 : Int32)).toNatClampNeg), .ref o]) (rest := []) C hN hE hWL hS (mL_turn (xs (x4 + (1 : Int32)).toNatClampNeg) σ r hr w k hk) cwL_turn csL_turn mlL_184 ⟨by decide, by decide⟩ rfl hl.1 (Nat.le_of_ble_eq_true rfl) ⟨Nat.le_trans (Nat.add_le_add_left (show 1 ≤ 4 by decide) _) hcs.1, Nat.le_trans (Nat.add_le_add_left (show 6 ≤ 24 by decide) _) hcs.2⟩ dL_law_1142 rfl (fun H locs hWL hS => ?_)
  refine W.widen (k := cells + 4) (n := slots + 24) (Nat.add_le_add_left (by decide) _) (Nat.add_le_add_left (by decide) _) ?_
  refine lv_istore (lv' := [(5, .int k), (0, .ref b0), (1, .ref (a + 0)), (2, .ref (b + 0)), (3, .ref o), (4, .int x4)]) hx0 hb dL_law_1145 hl (by decide) rfl (fun ls hl => ?_)
  refine lv_aload_n hx0 hb dL_law_1147 rfl (lv_at hl 3 rfl) ?_
  refine lv_aload_n hx0 hb dL_law_1148 rfl (lv_at hl 1 rfl) ?_
  refine lv_iload hx0 hb dL_law_1149 (lv_at hl 5 rfl) ?_
  refine lv_iconst (v := (1 : Int32)) hx0 hb dL_law_1151 (by decide) ?_
  refine lv_iadd hx0 hb dL_law_1152 ?_
  refine va_sld hx0 hb hX hbl hbA hS (hin 1 (by decide)) dL_law_1153 ?_
  refine z_callM (As := [.int (xs (x4 + (1 : Int32)).toNatClampNeg)]) (rest := []) C hE hWL hS (mX12_turn (xs (x4 + (1 : Int32)).toNatClampNeg) τ q hq) cwX12_turn cvX12_turn rfl mlL_186 ⟨by decide, by decide⟩ rfl hl.1 (Nat.le_of_ble_eq_true rfl) ⟨hcs.1, hcs.2⟩ dL_law_1154 rfl (fun H locs hWL hS => ?_)
  refine lv_istore (lv' := [(6, .int q.1), (5, .int k), (0, .ref b0), (1, .ref (a + 0)), (2, .ref (b + 0)), (3, .ref o), (4, .int x4)]) hx0 hb dL_law_1157 hl (by decide) rfl (fun ls hl => ?_)
  refine lv_aload_n hx0 hb dL_law_1159 rfl (lv_at hl 4 rfl) ?_
  refine z_callM (As := []) (rest := []) C hE hWL hS (mX12_thrown q.2 (q.2 0 0) rfl) cwX12_thrown cvX12_thrown rfl mlL_132 ⟨by decide, by decide⟩ rfl hl.1 (Nat.le_of_ble_eq_true rfl) ⟨hcs.1, hcs.2⟩ dL_law_1160 rfl (fun H locs hWL hS => ?_)
  refine lv_iload hx0 hb dL_law_1163 (lv_at hl 1 rfl) ?_
  refine lv_icmp_eq (tgt := 1170) hx0 hb dL_law_1165 (by decide) (fun _ => ?_) (fun z => absurd ht z)
  refine lv_iload hx0 hb dL_law_1170 (lv_at hl 1 rfl) ?_
  refine lv_if_ne (tgt := 1187) hx0 hb dL_law_1172 (by decide) (fun _ => ?_) (fun z => ?_)
  · refine lv_goto (tgt := 2459) hx0 hb dL_law_1187 (by decide) ?_
    exact hend _ _ _ _ _ _ hrel hWL hS (lv_sub hl [2, 3, 4, 5, 6] rfl)
  obtain ⟨v9, e9⟩ : ∃ v, r.1 = .inr v := by
    rcases hk with ⟨v, e, _⟩ | ⟨_, e⟩ | ⟨_, e⟩
    · exact ⟨v, e⟩
    · rw [e] at z; exact absurd z (by decide)
    · rw [e] at z; exact absurd z (by decide)
  have e8 : ou r w = q.1.toInt64 := by unfold ou; rw [e9, hv v9 e9]
  refine lv_aload_n hx0 hb dL_law_1175 rfl (lv_at hl 5 rfl) ?_
  refine lv_iconst (v := (0 : Int32)) hx0 hb dL_law_1176 (by decide) ?_
  refine z_lald C hWL.2.2.1 dL_law_1177 ?_
  refine lv_iload hx0 hb dL_law_1178 (lv_at hl 0 rfl) ?_
  refine lv_i2l hx0 hb dL_law_1180 rfl ?_
  refine W.lcmp hx0 hb dL_law_1181 ?_
  rw [e8, lcmp0]
  refine lv_if_eq (tgt := 1187) hx0 hb dL_law_1182 (by decide) (fun _ => ?_) (fun z => absurd rfl z)
  refine lv_goto (tgt := 2459) hx0 hb dL_law_1187 (by decide) ?_
  exact hend _ _ _ _ _ _ hrel hWL hS (lv_sub hl [2, 3, 4, 5, 6] rfl)
def Sim16 (Rel : Mem → Mem → Prop) : Prop := ∀ (σ τ : Mem) (x1 : Int32), Rel σ τ → ∃ (r : Rx) (q : Int32 × Mem) (k : Int32), fX11_goTo 0 x1 σ = some r ∧ fX12_goTo x1 τ = some q ∧ ((∃ v, r.1 = .inr v ∧ k = 0) ∨ (r.1 = .inl 2 ∧ k = 1)) ∧ (∀ v, r.1 = .inr v → q.1 = v) ∧ q.2 0 0 = k ∧ Rel r.2 q.2
set_option maxRecDepth 100000 in
set_option maxHeartbeats 4000000 in
theorem lc_16 {p : Program} {l : Launch} {e : Env} {s : State} {m : MethodId} {args : Array Value} {below : List Frame} {meth : Method} {c : Code} {E : Ev} {a b o b0 N : Nat} {xs : Nat → Int32} {Q : State → Prop} {Rel : Mem → Mem → Prop} (S : Sim16 Rel) (C : Cx p l s m args meth c E cL_law 7 RL (some .boolean)) (hN : Nx s) (hE : E.2.1 = s.heap) (hX : va_X b0 N xs s s.heap) (hbl : b0 < s.heap.size) {x4 : Int32} (hin : ∀ j : Nat, j < 6 → vp_in (x4 + Int32.ofNat j) N) {σ τ : Mem} {w : Int64} {H : Heap} {locs : List Loc} {cells slots : Nat} {ls : Array Slot} (hcs : cells + 4 ≤ 601024 ∧ slots + 24 ≤ 7293034) (hrel : Rel σ τ) (hWL : WL E a b o σ τ w H) (hS : va_S (An s) s.heap H locs) (hl : lv_has ls 7 [(0, .ref b0), (1, .ref (a + 0)), (2, .ref (b + 0)), (3, .ref o), (4, .int x4)]) (hend : ∀ (σ τ : Mem) (w : Int64) (H : Heap) (locs : List Loc) (ls : Array Slot), Rel σ τ → WL E a b o σ τ w H → va_S (An s) s.heap H locs → lv_has ls 7 [(0, .ref b0), (1, .ref (a + 0)), (2, .ref (b + 0)), (3, .ref o), (4, .int x4)] → W p l e room_1 s m args below meth c H locs (cells + 4) (slots + 24) Q (F0 m 2459 ls [])) : W p l e room_1 s m args below meth c H locs cells slots Q (F0 m 1190 ls []) := by
  have hx0 := C.1
  have hb := C.2.1
  have hbA : ¬ An s b0 := Nat.not_le.mpr hbl
  obtain ⟨r, q, k, hr, hq, hk, hv, ht, hrel⟩ := S σ τ (xs (x4 + (1 : Int32)).toNatClampNeg) hrel
  refine lv_aload_n hx0 hb dL_law_1190 rfl (lv_at hl 1 rfl) ?_
  refine lv_aload_n hx0 hb dL_law_1191 rfl (lv_at hl 0 rfl) ?_
  refine lv_iload hx0 hb dL_law_1192 (lv_at hl 4 rfl) ?_
  refine lv_iconst (v := (1 : Int32)) hx0 hb dL_law_1194 (by decide) ?_
  refine lv_iadd hx0 hb dL_law_1195 ?_
  refine va_sld hx0 hb hX hbl hbA hS (hin 1 (by decide)) dL_law_1196 ?_
  refine lv_aload_n hx0 hb dL_law_1197 rfl (lv_at hl 3 rfl) ?_
  refine z_wrap (As := [.ref (a + 0), .int (xs (x4 + (1 : Int32)).toNatClampNeg), .ref o]) (rest := []) C hN hE hWL hS (mL_goTo (xs (x4 + (1 : Int32)).toNatClampNeg) σ r hr w k hk) cwL_goTo csL_goTo mlL_187 ⟨by decide, by decide⟩ rfl hl.1 (Nat.le_of_ble_eq_true rfl) ⟨Nat.le_trans (Nat.add_le_add_left (show 1 ≤ 4 by decide) _) hcs.1, Nat.le_trans (Nat.add_le_add_left (show 6 ≤ 24 by decide) _) hcs.2⟩ dL_law_1198 rfl (fun H locs hWL hS => ?_)
  refine W.widen (k := cells + 4) (n := slots + 24) (Nat.add_le_add_left (by decide) _) (Nat.add_le_add_left (by decide) _) ?_
  refine lv_istore (lv' := [(5, .int k), (0, .ref b0), (1, .ref (a + 0)), (2, .ref (b + 0)), (3, .ref o), (4, .int x4)]) hx0 hb dL_law_1201 hl (by decide) rfl (fun ls hl => ?_)
  refine lv_aload_n hx0 hb dL_law_1203 rfl (lv_at hl 3 rfl) ?_
  refine lv_aload_n hx0 hb dL_law_1204 rfl (lv_at hl 1 rfl) ?_
  refine lv_iload hx0 hb dL_law_1205 (lv_at hl 5 rfl) ?_
  refine lv_iconst (v := (1 : Int32)) hx0 hb dL_law_1207 (by decide) ?_
  refine lv_iadd hx0 hb dL_law_1208 ?_
  refine va_sld hx0 hb hX hbl hbA hS (hin 1 (by decide)) dL_law_1209 ?_
  refine z_callM (As := [.int (xs (x4 + (1 : Int32)).toNatClampNeg)]) (rest := []) C hE hWL hS (mX12_goTo (xs (x4 + (1 : Int32)).toNatClampNeg) τ q hq) cwX12_goTo cvX12_goTo rfl mlL_189 ⟨by decide, by decide⟩ rfl hl.1 (Nat.le_of_ble_eq_true rfl) ⟨hcs.1, hcs.2⟩ dL_law_1210 rfl (fun H locs hWL hS => ?_)
  refine lv_istore (lv' := [(6, .int q.1), (5, .int k), (0, .ref b0), (1, .ref (a + 0)), (2, .ref (b + 0)), (3, .ref o), (4, .int x4)]) hx0 hb dL_law_1213 hl (by decide) rfl (fun ls hl => ?_)
  refine lv_aload_n hx0 hb dL_law_1215 rfl (lv_at hl 4 rfl) ?_
  refine z_callM (As := []) (rest := []) C hE hWL hS (mX12_thrown q.2 (q.2 0 0) rfl) cwX12_thrown cvX12_thrown rfl mlL_132 ⟨by decide, by decide⟩ rfl hl.1 (Nat.le_of_ble_eq_true rfl) ⟨hcs.1, hcs.2⟩ dL_law_1216 rfl (fun H locs hWL hS => ?_)
  refine lv_iload hx0 hb dL_law_1219 (lv_at hl 1 rfl) ?_
  refine lv_icmp_eq (tgt := 1226) hx0 hb dL_law_1221 (by decide) (fun _ => ?_) (fun z => absurd ht z)
  refine lv_iload hx0 hb dL_law_1226 (lv_at hl 1 rfl) ?_
  refine lv_if_ne (tgt := 1243) hx0 hb dL_law_1228 (by decide) (fun _ => ?_) (fun z => ?_)
  · refine lv_goto (tgt := 2459) hx0 hb dL_law_1243 (by decide) ?_
    exact hend _ _ _ _ _ _ hrel hWL hS (lv_sub hl [2, 3, 4, 5, 6] rfl)
  obtain ⟨v9, e9⟩ : ∃ v, r.1 = .inr v := by
    rcases hk with ⟨v, e, _⟩ | ⟨_, e⟩
    · exact ⟨v, e⟩
    · rw [e] at z; exact absurd z (by decide)
  have e8 : ou r w = q.1.toInt64 := by unfold ou; rw [e9, hv v9 e9]
  refine lv_aload_n hx0 hb dL_law_1231 rfl (lv_at hl 5 rfl) ?_
  refine lv_iconst (v := (0 : Int32)) hx0 hb dL_law_1232 (by decide) ?_
  refine z_lald C hWL.2.2.1 dL_law_1233 ?_
  refine lv_iload hx0 hb dL_law_1234 (lv_at hl 0 rfl) ?_
  refine lv_i2l hx0 hb dL_law_1236 rfl ?_
  refine W.lcmp hx0 hb dL_law_1237 ?_
  rw [e8, lcmp0]
  refine lv_if_eq (tgt := 1243) hx0 hb dL_law_1238 (by decide) (fun _ => ?_) (fun z => absurd rfl z)
  refine lv_goto (tgt := 2459) hx0 hb dL_law_1243 (by decide) ?_
  exact hend _ _ _ _ _ _ hrel hWL hS (lv_sub hl [2, 3, 4, 5, 6] rfl)
def Sim17 (Rel : Mem → Mem → Prop) : Prop := ∀ (σ τ : Mem), Rel σ τ → ∃ (r : Rx) (q : Int32 × Mem) (k : Int32), fX11_goBack 0 σ = some r ∧ fX12_goBack τ = some q ∧ ((∃ v, r.1 = .inr v ∧ k = 0) ∨ (r.1 = .inl 0 ∧ k = 1)) ∧ (∀ v, r.1 = .inr v → q.1 = v) ∧ q.2 0 0 = k ∧ Rel r.2 q.2
set_option maxRecDepth 100000 in
set_option maxHeartbeats 4000000 in
theorem lc_17 {p : Program} {l : Launch} {e : Env} {s : State} {m : MethodId} {args : Array Value} {below : List Frame} {meth : Method} {c : Code} {E : Ev} {a b o b0 N : Nat} {xs : Nat → Int32} {Q : State → Prop} {Rel : Mem → Mem → Prop} (S : Sim17 Rel) (C : Cx p l s m args meth c E cL_law 7 RL (some .boolean)) (hN : Nx s) (hE : E.2.1 = s.heap) (hX : va_X b0 N xs s s.heap) (hbl : b0 < s.heap.size) {x4 : Int32} (hin : ∀ j : Nat, j < 6 → vp_in (x4 + Int32.ofNat j) N) {σ τ : Mem} {w : Int64} {H : Heap} {locs : List Loc} {cells slots : Nat} {ls : Array Slot} (hcs : cells + 4 ≤ 601024 ∧ slots + 24 ≤ 7293034) (hrel : Rel σ τ) (hWL : WL E a b o σ τ w H) (hS : va_S (An s) s.heap H locs) (hl : lv_has ls 7 [(0, .ref b0), (1, .ref (a + 0)), (2, .ref (b + 0)), (3, .ref o), (4, .int x4)]) (hend : ∀ (σ τ : Mem) (w : Int64) (H : Heap) (locs : List Loc) (ls : Array Slot), Rel σ τ → WL E a b o σ τ w H → va_S (An s) s.heap H locs → lv_has ls 7 [(0, .ref b0), (1, .ref (a + 0)), (2, .ref (b + 0)), (3, .ref o), (4, .int x4)] → W p l e room_1 s m args below meth c H locs (cells + 4) (slots + 24) Q (F0 m 2459 ls [])) : W p l e room_1 s m args below meth c H locs cells slots Q (F0 m 1246 ls []) := by
  have hx0 := C.1
  have hb := C.2.1
  have hbA : ¬ An s b0 := Nat.not_le.mpr hbl
  obtain ⟨r, q, k, hr, hq, hk, hv, ht, hrel⟩ := S σ τ  hrel
  refine lv_aload_n hx0 hb dL_law_1246 rfl (lv_at hl 1 rfl) ?_
  refine lv_aload_n hx0 hb dL_law_1247 rfl (lv_at hl 3 rfl) ?_
  refine z_wrap (As := [.ref (a + 0), .ref o]) (rest := []) C hN hE hWL hS (mL_goBack  σ r hr w k hk) cwL_goBack csL_goBack mlL_190 ⟨by decide, by decide⟩ rfl hl.1 (Nat.le_of_ble_eq_true rfl) ⟨Nat.le_trans (Nat.add_le_add_left (show 1 ≤ 4 by decide) _) hcs.1, Nat.le_trans (Nat.add_le_add_left (show 6 ≤ 24 by decide) _) hcs.2⟩ dL_law_1248 rfl (fun H locs hWL hS => ?_)
  refine W.widen (k := cells + 4) (n := slots + 24) (Nat.add_le_add_left (by decide) _) (Nat.add_le_add_left (by decide) _) ?_
  refine lv_istore (lv' := [(5, .int k), (0, .ref b0), (1, .ref (a + 0)), (2, .ref (b + 0)), (3, .ref o), (4, .int x4)]) hx0 hb dL_law_1251 hl (by decide) rfl (fun ls hl => ?_)
  refine lv_aload_n hx0 hb dL_law_1253 rfl (lv_at hl 3 rfl) ?_
  refine z_callM (As := []) (rest := []) C hE hWL hS (mX12_goBack  τ q hq) cwX12_goBack cvX12_goBack rfl mlL_192 ⟨by decide, by decide⟩ rfl hl.1 (Nat.le_of_ble_eq_true rfl) ⟨hcs.1, hcs.2⟩ dL_law_1254 rfl (fun H locs hWL hS => ?_)
  refine lv_istore (lv' := [(6, .int q.1), (5, .int k), (0, .ref b0), (1, .ref (a + 0)), (2, .ref (b + 0)), (3, .ref o), (4, .int x4)]) hx0 hb dL_law_1257 hl (by decide) rfl (fun ls hl => ?_)
  refine lv_aload_n hx0 hb dL_law_1259 rfl (lv_at hl 4 rfl) ?_
  refine z_callM (As := []) (rest := []) C hE hWL hS (mX12_thrown q.2 (q.2 0 0) rfl) cwX12_thrown cvX12_thrown rfl mlL_132 ⟨by decide, by decide⟩ rfl hl.1 (Nat.le_of_ble_eq_true rfl) ⟨hcs.1, hcs.2⟩ dL_law_1260 rfl (fun H locs hWL hS => ?_)
  refine lv_iload hx0 hb dL_law_1263 (lv_at hl 1 rfl) ?_
  refine lv_icmp_eq (tgt := 1270) hx0 hb dL_law_1265 (by decide) (fun _ => ?_) (fun z => absurd ht z)
  refine lv_iload hx0 hb dL_law_1270 (lv_at hl 1 rfl) ?_
  refine lv_if_ne (tgt := 1287) hx0 hb dL_law_1272 (by decide) (fun _ => ?_) (fun z => ?_)
  · refine lv_goto (tgt := 2459) hx0 hb dL_law_1287 (by decide) ?_
    exact hend _ _ _ _ _ _ hrel hWL hS (lv_sub hl [2, 3, 4, 5, 6] rfl)
  obtain ⟨v9, e9⟩ : ∃ v, r.1 = .inr v := by
    rcases hk with ⟨v, e, _⟩ | ⟨_, e⟩
    · exact ⟨v, e⟩
    · rw [e] at z; exact absurd z (by decide)
  have e8 : ou r w = q.1.toInt64 := by unfold ou; rw [e9, hv v9 e9]
  refine lv_aload_n hx0 hb dL_law_1275 rfl (lv_at hl 5 rfl) ?_
  refine lv_iconst (v := (0 : Int32)) hx0 hb dL_law_1276 (by decide) ?_
  refine z_lald C hWL.2.2.1 dL_law_1277 ?_
  refine lv_iload hx0 hb dL_law_1278 (lv_at hl 0 rfl) ?_
  refine lv_i2l hx0 hb dL_law_1280 rfl ?_
  refine W.lcmp hx0 hb dL_law_1281 ?_
  rw [e8, lcmp0]
  refine lv_if_eq (tgt := 1287) hx0 hb dL_law_1282 (by decide) (fun _ => ?_) (fun z => absurd rfl z)
  refine lv_goto (tgt := 2459) hx0 hb dL_law_1287 (by decide) ?_
  exact hend _ _ _ _ _ _ hrel hWL hS (lv_sub hl [2, 3, 4, 5, 6] rfl)
def Sim18 (Rel : Mem → Mem → Prop) : Prop := ∀ (σ τ : Mem) (x1 : Int32), Rel σ τ → ∃ (r : Rx) (q : Int32 × Mem) (k : Int32), fX11_volume 0 x1 σ = some r ∧ fX12_volume x1 τ = some q ∧ ((∃ v, r.1 = .inr v ∧ k = 0) ∨ (r.1 = .inl 1 ∧ k = 1)) ∧ (∀ v, r.1 = .inr v → q.1 = v) ∧ q.2 0 0 = k ∧ Rel r.2 q.2
set_option maxRecDepth 100000 in
set_option maxHeartbeats 4000000 in
theorem lc_18 {p : Program} {l : Launch} {e : Env} {s : State} {m : MethodId} {args : Array Value} {below : List Frame} {meth : Method} {c : Code} {E : Ev} {a b o b0 N : Nat} {xs : Nat → Int32} {Q : State → Prop} {Rel : Mem → Mem → Prop} (S : Sim18 Rel) (C : Cx p l s m args meth c E cL_law 7 RL (some .boolean)) (hN : Nx s) (hE : E.2.1 = s.heap) (hX : va_X b0 N xs s s.heap) (hbl : b0 < s.heap.size) {x4 : Int32} (hin : ∀ j : Nat, j < 6 → vp_in (x4 + Int32.ofNat j) N) {σ τ : Mem} {w : Int64} {H : Heap} {locs : List Loc} {cells slots : Nat} {ls : Array Slot} (hcs : cells + 4 ≤ 601024 ∧ slots + 24 ≤ 7293034) (hrel : Rel σ τ) (hWL : WL E a b o σ τ w H) (hS : va_S (An s) s.heap H locs) (hl : lv_has ls 7 [(0, .ref b0), (1, .ref (a + 0)), (2, .ref (b + 0)), (3, .ref o), (4, .int x4)]) (hend : ∀ (σ τ : Mem) (w : Int64) (H : Heap) (locs : List Loc) (ls : Array Slot), Rel σ τ → WL E a b o σ τ w H → va_S (An s) s.heap H locs → lv_has ls 7 [(0, .ref b0), (1, .ref (a + 0)), (2, .ref (b + 0)), (3, .ref o), (4, .int x4)] → W p l e room_1 s m args below meth c H locs (cells + 4) (slots + 24) Q (F0 m 2459 ls [])) : W p l e room_1 s m args below meth c H locs cells slots Q (F0 m 1290 ls []) := by
  have hx0 := C.1
  have hb := C.2.1
  have hbA : ¬ An s b0 := Nat.not_le.mpr hbl
  obtain ⟨r, q, k, hr, hq, hk, hv, ht, hrel⟩ := S σ τ (xs (x4 + (1 : Int32)).toNatClampNeg) hrel
  refine lv_aload_n hx0 hb dL_law_1290 rfl (lv_at hl 1 rfl) ?_
  refine lv_aload_n hx0 hb dL_law_1291 rfl (lv_at hl 0 rfl) ?_
  refine lv_iload hx0 hb dL_law_1292 (lv_at hl 4 rfl) ?_
  refine lv_iconst (v := (1 : Int32)) hx0 hb dL_law_1294 (by decide) ?_
  refine lv_iadd hx0 hb dL_law_1295 ?_
  refine va_sld hx0 hb hX hbl hbA hS (hin 1 (by decide)) dL_law_1296 ?_
  refine lv_aload_n hx0 hb dL_law_1297 rfl (lv_at hl 3 rfl) ?_
  refine z_wrap (As := [.ref (a + 0), .int (xs (x4 + (1 : Int32)).toNatClampNeg), .ref o]) (rest := []) C hN hE hWL hS (mL_volume (xs (x4 + (1 : Int32)).toNatClampNeg) σ r hr w k hk) cwL_volume csL_volume mlL_193 ⟨by decide, by decide⟩ rfl hl.1 (Nat.le_of_ble_eq_true rfl) ⟨Nat.le_trans (Nat.add_le_add_left (show 1 ≤ 4 by decide) _) hcs.1, Nat.le_trans (Nat.add_le_add_left (show 6 ≤ 24 by decide) _) hcs.2⟩ dL_law_1298 rfl (fun H locs hWL hS => ?_)
  refine W.widen (k := cells + 4) (n := slots + 24) (Nat.add_le_add_left (by decide) _) (Nat.add_le_add_left (by decide) _) ?_
  refine lv_istore (lv' := [(5, .int k), (0, .ref b0), (1, .ref (a + 0)), (2, .ref (b + 0)), (3, .ref o), (4, .int x4)]) hx0 hb dL_law_1301 hl (by decide) rfl (fun ls hl => ?_)
  refine lv_aload_n hx0 hb dL_law_1303 rfl (lv_at hl 3 rfl) ?_
  refine lv_aload_n hx0 hb dL_law_1304 rfl (lv_at hl 1 rfl) ?_
  refine lv_iload hx0 hb dL_law_1305 (lv_at hl 5 rfl) ?_
  refine lv_iconst (v := (1 : Int32)) hx0 hb dL_law_1307 (by decide) ?_
  refine lv_iadd hx0 hb dL_law_1308 ?_
  refine va_sld hx0 hb hX hbl hbA hS (hin 1 (by decide)) dL_law_1309 ?_
  refine z_callM (As := [.int (xs (x4 + (1 : Int32)).toNatClampNeg)]) (rest := []) C hE hWL hS (mX12_volume (xs (x4 + (1 : Int32)).toNatClampNeg) τ q hq) cwX12_volume cvX12_volume rfl mlL_195 ⟨by decide, by decide⟩ rfl hl.1 (Nat.le_of_ble_eq_true rfl) ⟨hcs.1, hcs.2⟩ dL_law_1310 rfl (fun H locs hWL hS => ?_)
  refine lv_istore (lv' := [(6, .int q.1), (5, .int k), (0, .ref b0), (1, .ref (a + 0)), (2, .ref (b + 0)), (3, .ref o), (4, .int x4)]) hx0 hb dL_law_1313 hl (by decide) rfl (fun ls hl => ?_)
  refine lv_aload_n hx0 hb dL_law_1315 rfl (lv_at hl 4 rfl) ?_
  refine z_callM (As := []) (rest := []) C hE hWL hS (mX12_thrown q.2 (q.2 0 0) rfl) cwX12_thrown cvX12_thrown rfl mlL_132 ⟨by decide, by decide⟩ rfl hl.1 (Nat.le_of_ble_eq_true rfl) ⟨hcs.1, hcs.2⟩ dL_law_1316 rfl (fun H locs hWL hS => ?_)
  refine lv_iload hx0 hb dL_law_1319 (lv_at hl 1 rfl) ?_
  refine lv_icmp_eq (tgt := 1326) hx0 hb dL_law_1321 (by decide) (fun _ => ?_) (fun z => absurd ht z)
  refine lv_iload hx0 hb dL_law_1326 (lv_at hl 1 rfl) ?_
  refine lv_if_ne (tgt := 1343) hx0 hb dL_law_1328 (by decide) (fun _ => ?_) (fun z => ?_)
  · refine lv_goto (tgt := 2459) hx0 hb dL_law_1343 (by decide) ?_
    exact hend _ _ _ _ _ _ hrel hWL hS (lv_sub hl [2, 3, 4, 5, 6] rfl)
  obtain ⟨v9, e9⟩ : ∃ v, r.1 = .inr v := by
    rcases hk with ⟨v, e, _⟩ | ⟨_, e⟩
    · exact ⟨v, e⟩
    · rw [e] at z; exact absurd z (by decide)
  have e8 : ou r w = q.1.toInt64 := by unfold ou; rw [e9, hv v9 e9]
  refine lv_aload_n hx0 hb dL_law_1331 rfl (lv_at hl 5 rfl) ?_
  refine lv_iconst (v := (0 : Int32)) hx0 hb dL_law_1332 (by decide) ?_
  refine z_lald C hWL.2.2.1 dL_law_1333 ?_
  refine lv_iload hx0 hb dL_law_1334 (lv_at hl 0 rfl) ?_
  refine lv_i2l hx0 hb dL_law_1336 rfl ?_
  refine W.lcmp hx0 hb dL_law_1337 ?_
  rw [e8, lcmp0]
  refine lv_if_eq (tgt := 1343) hx0 hb dL_law_1338 (by decide) (fun _ => ?_) (fun z => absurd rfl z)
  refine lv_goto (tgt := 2459) hx0 hb dL_law_1343 (by decide) ?_
  exact hend _ _ _ _ _ _ hrel hWL hS (lv_sub hl [2, 3, 4, 5, 6] rfl)
def Sim19 (Rel : Mem → Mem → Prop) : Prop := ∀ (σ τ : Mem) (x1 : Int32) (x2 : Int32), Rel σ τ → ∃ (r : Rx) (q : Int32 × Mem) (k : Int32), fX11_leaf 0 x1 x2 σ = some r ∧ fX12_leaf x1 x2 τ = some q ∧ ((∃ v, r.1 = .inr v ∧ k = 0) ∨ (r.1 = .inl 2 ∧ k = 1) ∨ (r.1 = .inl 1 ∧ k = 2)) ∧ (∀ v, r.1 = .inr v → q.1 = v) ∧ q.2 0 0 = k ∧ Rel r.2 q.2
set_option maxRecDepth 100000 in
set_option maxHeartbeats 4000000 in
theorem lc_19 {p : Program} {l : Launch} {e : Env} {s : State} {m : MethodId} {args : Array Value} {below : List Frame} {meth : Method} {c : Code} {E : Ev} {a b o b0 N : Nat} {xs : Nat → Int32} {Q : State → Prop} {Rel : Mem → Mem → Prop} (S : Sim19 Rel) (C : Cx p l s m args meth c E cL_law 7 RL (some .boolean)) (hN : Nx s) (hE : E.2.1 = s.heap) (hX : va_X b0 N xs s s.heap) (hbl : b0 < s.heap.size) {x4 : Int32} (hin : ∀ j : Nat, j < 6 → vp_in (x4 + Int32.ofNat j) N) {σ τ : Mem} {w : Int64} {H : Heap} {locs : List Loc} {cells slots : Nat} {ls : Array Slot} (hcs : cells + 4 ≤ 601024 ∧ slots + 24 ≤ 7293034) (hrel : Rel σ τ) (hWL : WL E a b o σ τ w H) (hS : va_S (An s) s.heap H locs) (hl : lv_has ls 7 [(0, .ref b0), (1, .ref (a + 0)), (2, .ref (b + 0)), (3, .ref o), (4, .int x4)]) (hend : ∀ (σ τ : Mem) (w : Int64) (H : Heap) (locs : List Loc) (ls : Array Slot), Rel σ τ → WL E a b o σ τ w H → va_S (An s) s.heap H locs → lv_has ls 7 [(0, .ref b0), (1, .ref (a + 0)), (2, .ref (b + 0)), (3, .ref o), (4, .int x4)] → W p l e room_1 s m args below meth c H locs (cells + 4) (slots + 24) Q (F0 m 2459 ls [])) : W p l e room_1 s m args below meth c H locs cells slots Q (F0 m 1346 ls []) := by
  have hx0 := C.1
  have hb := C.2.1
  have hbA : ¬ An s b0 := Nat.not_le.mpr hbl
  obtain ⟨r, q, k, hr, hq, hk, hv, ht, hrel⟩ := S σ τ (xs (x4 + (1 : Int32)).toNatClampNeg) (xs (x4 + (2 : Int32)).toNatClampNeg) hrel
  refine lv_aload_n hx0 hb dL_law_1346 rfl (lv_at hl 1 rfl) ?_
  refine lv_aload_n hx0 hb dL_law_1347 rfl (lv_at hl 0 rfl) ?_
  refine lv_iload hx0 hb dL_law_1348 (lv_at hl 4 rfl) ?_
  refine lv_iconst (v := (1 : Int32)) hx0 hb dL_law_1350 (by decide) ?_
  refine lv_iadd hx0 hb dL_law_1351 ?_
  refine va_sld hx0 hb hX hbl hbA hS (hin 1 (by decide)) dL_law_1352 ?_
  refine lv_aload_n hx0 hb dL_law_1353 rfl (lv_at hl 0 rfl) ?_
  refine lv_iload hx0 hb dL_law_1354 (lv_at hl 4 rfl) ?_
  refine lv_iconst (v := (2 : Int32)) hx0 hb dL_law_1356 (by decide) ?_
  refine lv_iadd hx0 hb dL_law_1357 ?_
  refine va_sld hx0 hb hX hbl hbA hS (hin 2 (by decide)) dL_law_1358 ?_
  refine lv_aload_n hx0 hb dL_law_1359 rfl (lv_at hl 3 rfl) ?_
  refine z_wrap (As := [.ref (a + 0), .int (xs (x4 + (1 : Int32)).toNatClampNeg), .int (xs (x4 + (2 : Int32)).toNatClampNeg), .ref o]) (rest := []) C hN hE hWL hS (mL_leaf (xs (x4 + (1 : Int32)).toNatClampNeg) (xs (x4 + (2 : Int32)).toNatClampNeg) σ r hr w k hk) cwL_leaf csL_leaf mlL_196 ⟨by decide, by decide⟩ rfl hl.1 (Nat.le_of_ble_eq_true rfl) ⟨Nat.le_trans (Nat.add_le_add_left (show 2 ≤ 4 by decide) _) hcs.1, Nat.le_trans (Nat.add_le_add_left (show 12 ≤ 24 by decide) _) hcs.2⟩ dL_law_1360 rfl (fun H locs hWL hS => ?_)
  refine W.widen (k := cells + 4) (n := slots + 24) (Nat.add_le_add_left (by decide) _) (Nat.add_le_add_left (by decide) _) ?_
  refine lv_istore (lv' := [(5, .int k), (0, .ref b0), (1, .ref (a + 0)), (2, .ref (b + 0)), (3, .ref o), (4, .int x4)]) hx0 hb dL_law_1363 hl (by decide) rfl (fun ls hl => ?_)
  refine lv_aload_n hx0 hb dL_law_1365 rfl (lv_at hl 3 rfl) ?_
  refine lv_aload_n hx0 hb dL_law_1366 rfl (lv_at hl 1 rfl) ?_
  refine lv_iload hx0 hb dL_law_1367 (lv_at hl 5 rfl) ?_
  refine lv_iconst (v := (1 : Int32)) hx0 hb dL_law_1369 (by decide) ?_
  refine lv_iadd hx0 hb dL_law_1370 ?_
  refine va_sld hx0 hb hX hbl hbA hS (hin 1 (by decide)) dL_law_1371 ?_
  refine lv_aload_n hx0 hb dL_law_1372 rfl (lv_at hl 1 rfl) ?_
  refine lv_iload hx0 hb dL_law_1373 (lv_at hl 5 rfl) ?_
  refine lv_iconst (v := (2 : Int32)) hx0 hb dL_law_1375 (by decide) ?_
  refine lv_iadd hx0 hb dL_law_1376 ?_
  refine va_sld hx0 hb hX hbl hbA hS (hin 2 (by decide)) dL_law_1377 ?_
  refine z_callM (As := [.int (xs (x4 + (1 : Int32)).toNatClampNeg), .int (xs (x4 + (2 : Int32)).toNatClampNeg)]) (rest := []) C hE hWL hS (mX12_leaf (xs (x4 + (1 : Int32)).toNatClampNeg) (xs (x4 + (2 : Int32)).toNatClampNeg) τ q hq) cwX12_leaf cvX12_leaf rfl mlL_198 ⟨by decide, by decide⟩ rfl hl.1 (Nat.le_of_ble_eq_true rfl) ⟨hcs.1, hcs.2⟩ dL_law_1378 rfl (fun H locs hWL hS => ?_)
  refine lv_istore (lv' := [(6, .int q.1), (5, .int k), (0, .ref b0), (1, .ref (a + 0)), (2, .ref (b + 0)), (3, .ref o), (4, .int x4)]) hx0 hb dL_law_1381 hl (by decide) rfl (fun ls hl => ?_)
  refine lv_aload_n hx0 hb dL_law_1383 rfl (lv_at hl 4 rfl) ?_
  refine z_callM (As := []) (rest := []) C hE hWL hS (mX12_thrown q.2 (q.2 0 0) rfl) cwX12_thrown cvX12_thrown rfl mlL_132 ⟨by decide, by decide⟩ rfl hl.1 (Nat.le_of_ble_eq_true rfl) ⟨hcs.1, hcs.2⟩ dL_law_1384 rfl (fun H locs hWL hS => ?_)
  refine lv_iload hx0 hb dL_law_1387 (lv_at hl 1 rfl) ?_
  refine lv_icmp_eq (tgt := 1394) hx0 hb dL_law_1389 (by decide) (fun _ => ?_) (fun z => absurd ht z)
  refine lv_iload hx0 hb dL_law_1394 (lv_at hl 1 rfl) ?_
  refine lv_if_ne (tgt := 1411) hx0 hb dL_law_1396 (by decide) (fun _ => ?_) (fun z => ?_)
  · refine lv_goto (tgt := 2459) hx0 hb dL_law_1411 (by decide) ?_
    exact hend _ _ _ _ _ _ hrel hWL hS (lv_sub hl [2, 3, 4, 5, 6] rfl)
  obtain ⟨v9, e9⟩ : ∃ v, r.1 = .inr v := by
    rcases hk with ⟨v, e, _⟩ | ⟨_, e⟩ | ⟨_, e⟩
    · exact ⟨v, e⟩
    · rw [e] at z; exact absurd z (by decide)
    · rw [e] at z; exact absurd z (by decide)
  have e8 : ou r w = q.1.toInt64 := by unfold ou; rw [e9, hv v9 e9]
  refine lv_aload_n hx0 hb dL_law_1399 rfl (lv_at hl 5 rfl) ?_
  refine lv_iconst (v := (0 : Int32)) hx0 hb dL_law_1400 (by decide) ?_
  refine z_lald C hWL.2.2.1 dL_law_1401 ?_
  refine lv_iload hx0 hb dL_law_1402 (lv_at hl 0 rfl) ?_
  refine lv_i2l hx0 hb dL_law_1404 rfl ?_
  refine W.lcmp hx0 hb dL_law_1405 ?_
  rw [e8, lcmp0]
  refine lv_if_eq (tgt := 1411) hx0 hb dL_law_1406 (by decide) (fun _ => ?_) (fun z => absurd rfl z)
  refine lv_goto (tgt := 2459) hx0 hb dL_law_1411 (by decide) ?_
  exact hend _ _ _ _ _ _ hrel hWL hS (lv_sub hl [2, 3, 4, 5, 6] rfl)
def Sim20 (Rel : Mem → Mem → Prop) : Prop := ∀ (σ τ : Mem) (x1 : Int32) (x2 : Int32), Rel σ τ → ∃ (r : Rx) (q : Int32 × Mem) (k : Int32), fX11_slip 0 x1 x2 σ = some r ∧ fX12_slip x1 x2 τ = some q ∧ ((∃ v, r.1 = .inr v ∧ k = 0) ∨ (r.1 = .inl 2 ∧ k = 1) ∨ (r.1 = .inl 1 ∧ k = 2)) ∧ (∀ v, r.1 = .inr v → q.1 = v) ∧ q.2 0 0 = k ∧ Rel r.2 q.2
set_option maxRecDepth 100000 in
set_option maxHeartbeats 4000000 in
theorem lc_20 {p : Program} {l : Launch} {e : Env} {s : State} {m : MethodId} {args : Array Value} {below : List Frame} {meth : Method} {c : Code} {E : Ev} {a b o b0 N : Nat} {xs : Nat → Int32} {Q : State → Prop} {Rel : Mem → Mem → Prop} (S : Sim20 Rel) (C : Cx p l s m args meth c E cL_law 7 RL (some .boolean)) (hN : Nx s) (hE : E.2.1 = s.heap) (hX : va_X b0 N xs s s.heap) (hbl : b0 < s.heap.size) {x4 : Int32} (hin : ∀ j : Nat, j < 6 → vp_in (x4 + Int32.ofNat j) N) {σ τ : Mem} {w : Int64} {H : Heap} {locs : List Loc} {cells slots : Nat} {ls : Array Slot} (hcs : cells + 4 ≤ 601024 ∧ slots + 24 ≤ 7293034) (hrel : Rel σ τ) (hWL : WL E a b o σ τ w H) (hS : va_S (An s) s.heap H locs) (hl : lv_has ls 7 [(0, .ref b0), (1, .ref (a + 0)), (2, .ref (b + 0)), (3, .ref o), (4, .int x4)]) (hend : ∀ (σ τ : Mem) (w : Int64) (H : Heap) (locs : List Loc) (ls : Array Slot), Rel σ τ → WL E a b o σ τ w H → va_S (An s) s.heap H locs → lv_has ls 7 [(0, .ref b0), (1, .ref (a + 0)), (2, .ref (b + 0)), (3, .ref o), (4, .int x4)] → W p l e room_1 s m args below meth c H locs (cells + 4) (slots + 24) Q (F0 m 2459 ls [])) : W p l e room_1 s m args below meth c H locs cells slots Q (F0 m 1414 ls []) := by
  have hx0 := C.1
  have hb := C.2.1
  have hbA : ¬ An s b0 := Nat.not_le.mpr hbl
  obtain ⟨r, q, k, hr, hq, hk, hv, ht, hrel⟩ := S σ τ (xs (x4 + (1 : Int32)).toNatClampNeg) (xs (x4 + (2 : Int32)).toNatClampNeg) hrel
  refine lv_aload_n hx0 hb dL_law_1414 rfl (lv_at hl 1 rfl) ?_
  refine lv_aload_n hx0 hb dL_law_1415 rfl (lv_at hl 0 rfl) ?_
  refine lv_iload hx0 hb dL_law_1416 (lv_at hl 4 rfl) ?_
  refine lv_iconst (v := (1 : Int32)) hx0 hb dL_law_1418 (by decide) ?_
  refine lv_iadd hx0 hb dL_law_1419 ?_
  refine va_sld hx0 hb hX hbl hbA hS (hin 1 (by decide)) dL_law_1420 ?_
  refine lv_aload_n hx0 hb dL_law_1421 rfl (lv_at hl 0 rfl) ?_
  refine lv_iload hx0 hb dL_law_1422 (lv_at hl 4 rfl) ?_
  refine lv_iconst (v := (2 : Int32)) hx0 hb dL_law_1424 (by decide) ?_
  refine lv_iadd hx0 hb dL_law_1425 ?_
  refine va_sld hx0 hb hX hbl hbA hS (hin 2 (by decide)) dL_law_1426 ?_
  refine lv_aload_n hx0 hb dL_law_1427 rfl (lv_at hl 3 rfl) ?_
  refine z_wrap (As := [.ref (a + 0), .int (xs (x4 + (1 : Int32)).toNatClampNeg), .int (xs (x4 + (2 : Int32)).toNatClampNeg), .ref o]) (rest := []) C hN hE hWL hS (mL_slip (xs (x4 + (1 : Int32)).toNatClampNeg) (xs (x4 + (2 : Int32)).toNatClampNeg) σ r hr w k hk) cwL_slip csL_slip mlL_199 ⟨by decide, by decide⟩ rfl hl.1 (Nat.le_of_ble_eq_true rfl) ⟨Nat.le_trans (Nat.add_le_add_left (show 2 ≤ 4 by decide) _) hcs.1, Nat.le_trans (Nat.add_le_add_left (show 12 ≤ 24 by decide) _) hcs.2⟩ dL_law_1428 rfl (fun H locs hWL hS => ?_)
  refine W.widen (k := cells + 4) (n := slots + 24) (Nat.add_le_add_left (by decide) _) (Nat.add_le_add_left (by decide) _) ?_
  refine lv_istore (lv' := [(5, .int k), (0, .ref b0), (1, .ref (a + 0)), (2, .ref (b + 0)), (3, .ref o), (4, .int x4)]) hx0 hb dL_law_1431 hl (by decide) rfl (fun ls hl => ?_)
  refine lv_aload_n hx0 hb dL_law_1433 rfl (lv_at hl 3 rfl) ?_
  refine lv_aload_n hx0 hb dL_law_1434 rfl (lv_at hl 1 rfl) ?_
  refine lv_iload hx0 hb dL_law_1435 (lv_at hl 5 rfl) ?_
  refine lv_iconst (v := (1 : Int32)) hx0 hb dL_law_1437 (by decide) ?_
  refine lv_iadd hx0 hb dL_law_1438 ?_
  refine va_sld hx0 hb hX hbl hbA hS (hin 1 (by decide)) dL_law_1439 ?_
  refine lv_aload_n hx0 hb dL_law_1440 rfl (lv_at hl 1 rfl) ?_
  refine lv_iload hx0 hb dL_law_1441 (lv_at hl 5 rfl) ?_
  refine lv_iconst (v := (2 : Int32)) hx0 hb dL_law_1443 (by decide) ?_
  refine lv_iadd hx0 hb dL_law_1444 ?_
  refine va_sld hx0 hb hX hbl hbA hS (hin 2 (by decide)) dL_law_1445 ?_
  refine z_callM (As := [.int (xs (x4 + (1 : Int32)).toNatClampNeg), .int (xs (x4 + (2 : Int32)).toNatClampNeg)]) (rest := []) C hE hWL hS (mX12_slip (xs (x4 + (1 : Int32)).toNatClampNeg) (xs (x4 + (2 : Int32)).toNatClampNeg) τ q hq) cwX12_slip cvX12_slip rfl mlL_201 ⟨by decide, by decide⟩ rfl hl.1 (Nat.le_of_ble_eq_true rfl) ⟨hcs.1, hcs.2⟩ dL_law_1446 rfl (fun H locs hWL hS => ?_)
  refine lv_istore (lv' := [(6, .int q.1), (5, .int k), (0, .ref b0), (1, .ref (a + 0)), (2, .ref (b + 0)), (3, .ref o), (4, .int x4)]) hx0 hb dL_law_1449 hl (by decide) rfl (fun ls hl => ?_)
  refine lv_aload_n hx0 hb dL_law_1451 rfl (lv_at hl 4 rfl) ?_
  refine z_callM (As := []) (rest := []) C hE hWL hS (mX12_thrown q.2 (q.2 0 0) rfl) cwX12_thrown cvX12_thrown rfl mlL_132 ⟨by decide, by decide⟩ rfl hl.1 (Nat.le_of_ble_eq_true rfl) ⟨hcs.1, hcs.2⟩ dL_law_1452 rfl (fun H locs hWL hS => ?_)
  refine lv_iload hx0 hb dL_law_1455 (lv_at hl 1 rfl) ?_
  refine lv_icmp_eq (tgt := 1462) hx0 hb dL_law_1457 (by decide) (fun _ => ?_) (fun z => absurd ht z)
  refine lv_iload hx0 hb dL_law_1462 (lv_at hl 1 rfl) ?_
  refine lv_if_ne (tgt := 1479) hx0 hb dL_law_1464 (by decide) (fun _ => ?_) (fun z => ?_)
  · refine lv_goto (tgt := 2459) hx0 hb dL_law_1479 (by decide) ?_
    exact hend _ _ _ _ _ _ hrel hWL hS (lv_sub hl [2, 3, 4, 5, 6] rfl)
  obtain ⟨v9, e9⟩ : ∃ v, r.1 = .inr v := by
    rcases hk with ⟨v, e, _⟩ | ⟨_, e⟩ | ⟨_, e⟩
    · exact ⟨v, e⟩
    · rw [e] at z; exact absurd z (by decide)
    · rw [e] at z; exact absurd z (by decide)
  have e8 : ou r w = q.1.toInt64 := by unfold ou; rw [e9, hv v9 e9]
  refine lv_aload_n hx0 hb dL_law_1467 rfl (lv_at hl 5 rfl) ?_
  refine lv_iconst (v := (0 : Int32)) hx0 hb dL_law_1468 (by decide) ?_
  refine z_lald C hWL.2.2.1 dL_law_1469 ?_
  refine lv_iload hx0 hb dL_law_1470 (lv_at hl 0 rfl) ?_
  refine lv_i2l hx0 hb dL_law_1472 rfl ?_
  refine W.lcmp hx0 hb dL_law_1473 ?_
  rw [e8, lcmp0]
  refine lv_if_eq (tgt := 1479) hx0 hb dL_law_1474 (by decide) (fun _ => ?_) (fun z => absurd rfl z)
  refine lv_goto (tgt := 2459) hx0 hb dL_law_1479 (by decide) ?_
  exact hend _ _ _ _ _ _ hrel hWL hS (lv_sub hl [2, 3, 4, 5, 6] rfl)
def Sim21 (Rel : Mem → Mem → Prop) : Prop := ∀ (σ τ : Mem), Rel σ τ → ∃ (v : Int32) (σ' τ' : Mem), fX11_formatCollation 0 σ = some (v, σ') ∧ fX12_formatCollation τ = some (v, τ') ∧ Rel σ' τ'
set_option maxRecDepth 100000 in
set_option maxHeartbeats 4000000 in
theorem lc_21 {p : Program} {l : Launch} {e : Env} {s : State} {m : MethodId} {args : Array Value} {below : List Frame} {meth : Method} {c : Code} {E : Ev} {a b o b0 N : Nat} {xs : Nat → Int32} {Q : State → Prop} {Rel : Mem → Mem → Prop} (S : Sim21 Rel) (C : Cx p l s m args meth c E cL_law 7 RL (some .boolean)) (hN : Nx s) (hE : E.2.1 = s.heap) (hX : va_X b0 N xs s s.heap) (hbl : b0 < s.heap.size) {x4 : Int32} (hin : ∀ j : Nat, j < 6 → vp_in (x4 + Int32.ofNat j) N) {σ τ : Mem} {w : Int64} {H : Heap} {locs : List Loc} {cells slots : Nat} {ls : Array Slot} (hcs : cells + 4 ≤ 601024 ∧ slots + 24 ≤ 7293034) (hrel : Rel σ τ) (hWL : WL E a b o σ τ w H) (hS : va_S (An s) s.heap H locs) (hl : lv_has ls 7 [(0, .ref b0), (1, .ref (a + 0)), (2, .ref (b + 0)), (3, .ref o), (4, .int x4)]) (hend : ∀ (σ τ : Mem) (w : Int64) (H : Heap) (locs : List Loc) (ls : Array Slot), Rel σ τ → WL E a b o σ τ w H → va_S (An s) s.heap H locs → lv_has ls 7 [(0, .ref b0), (1, .ref (a + 0)), (2, .ref (b + 0)), (3, .ref o), (4, .int x4)] → W p l e room_1 s m args below meth c H locs (cells + 4) (slots + 24) Q (F0 m 2459 ls [])) : W p l e room_1 s m args below meth c H locs cells slots Q (F0 m 1482 ls []) := by
  have hx0 := C.1
  have hb := C.2.1
  have hbA : ¬ An s b0 := Nat.not_le.mpr hbl
  obtain ⟨v, σ1, τ1, hr, hq, hrel⟩ := S σ τ  hrel
  refine lv_aload_n hx0 hb dL_law_1482 rfl (lv_at hl 1 rfl) ?_
  refine z_callX (As := []) (rest := []) C hE hWL hS (mX11_formatCollation 0 kd0 σ (v, σ1) hr) cwX11_formatCollation cvX11_formatCollation rfl mlL_202 ⟨by decide, by decide⟩ rfl hl.1 (Nat.le_of_ble_eq_true rfl) ⟨by show cells ≤ 601024; omega, by show slots ≤ 7293034; omega⟩ dL_law_1483 rfl (fun H locs hWL hS => ?_)
  refine lv_aload_n hx0 hb dL_law_1486 rfl (lv_at hl 2 rfl) ?_
  refine z_callM (As := []) (rest := [.int v]) C hE hWL hS (mX12_formatCollation  τ (v, τ1) hq) cwX12_formatCollation cvX12_formatCollation rfl mlL_205 ⟨by decide, by decide⟩ rfl hl.1 (Nat.le_of_ble_eq_true rfl) ⟨by show cells ≤ 601024; omega, by show slots ≤ 7293034; omega⟩ dL_law_1487 rfl (fun H locs hWL hS => ?_)
  refine lv_icmp_eq (tgt := 2459) hx0 hb dL_law_1490 (by decide) (fun _ => ?_) (fun z => absurd rfl z)
  refine W.widen (k := cells + 4) (n := slots + 24) (by omega) (by omega) ?_
  exact hend _ _ _ _ _ _ hrel hWL hS (lv_sub hl [0, 1, 2, 3, 4] rfl)
def Sim22 (Rel : Mem → Mem → Prop) : Prop := ∀ (σ τ : Mem) (x1 : Int32), Rel σ τ → ∃ (r : Rx) (q : Int32 × Mem) (k : Int32), fX11_formattedByte 0 x1 σ = some r ∧ fX12_formattedByte x1 τ = some q ∧ ((∃ v, r.1 = .inr v ∧ k = 0) ∨ (r.1 = .inl 2 ∧ k = 1)) ∧ (∀ v, r.1 = .inr v → q.1 = v) ∧ q.2 0 0 = k ∧ Rel r.2 q.2
set_option maxRecDepth 100000 in
set_option maxHeartbeats 4000000 in
theorem lc_22 {p : Program} {l : Launch} {e : Env} {s : State} {m : MethodId} {args : Array Value} {below : List Frame} {meth : Method} {c : Code} {E : Ev} {a b o b0 N : Nat} {xs : Nat → Int32} {Q : State → Prop} {Rel : Mem → Mem → Prop} (S : Sim22 Rel) (C : Cx p l s m args meth c E cL_law 7 RL (some .boolean)) (hN : Nx s) (hE : E.2.1 = s.heap) (hX : va_X b0 N xs s s.heap) (hbl : b0 < s.heap.size) {x4 : Int32} (hin : ∀ j : Nat, j < 6 → vp_in (x4 + Int32.ofNat j) N) {σ τ : Mem} {w : Int64} {H : Heap} {locs : List Loc} {cells slots : Nat} {ls : Array Slot} (hcs : cells + 4 ≤ 601024 ∧ slots + 24 ≤ 7293034) (hrel : Rel σ τ) (hWL : WL E a b o σ τ w H) (hS : va_S (An s) s.heap H locs) (hl : lv_has ls 7 [(0, .ref b0), (1, .ref (a + 0)), (2, .ref (b + 0)), (3, .ref o), (4, .int x4)]) (hend : ∀ (σ τ : Mem) (w : Int64) (H : Heap) (locs : List Loc) (ls : Array Slot), Rel σ τ → WL E a b o σ τ w H → va_S (An s) s.heap H locs → lv_has ls 7 [(0, .ref b0), (1, .ref (a + 0)), (2, .ref (b + 0)), (3, .ref o), (4, .int x4)] → W p l e room_1 s m args below meth c H locs (cells + 4) (slots + 24) Q (F0 m 2459 ls [])) : W p l e room_1 s m args below meth c H locs cells slots Q (F0 m 1495 ls []) := by
  have hx0 := C.1
  have hb := C.2.1
  have hbA : ¬ An s b0 := Nat.not_le.mpr hbl
  obtain ⟨r, q, k, hr, hq, hk, hv, ht, hrel⟩ := S σ τ (xs (x4 + (1 : Int32)).toNatClampNeg) hrel
  refine lv_aload_n hx0 hb dL_law_1495 rfl (lv_at hl 1 rfl) ?_
  refine lv_aload_n hx0 hb dL_law_1496 rfl (lv_at hl 0 rfl) ?_
  refine lv_iload hx0 hb dL_law_1497 (lv_at hl 4 rfl) ?_
  refine lv_iconst (v := (1 : Int32)) hx0 hb dL_law_1499 (by decide) ?_
  refine lv_iadd hx0 hb dL_law_1500 ?_
  refine va_sld hx0 hb hX hbl hbA hS (hin 1 (by decide)) dL_law_1501 ?_
  refine lv_aload_n hx0 hb dL_law_1502 rfl (lv_at hl 3 rfl) ?_
  refine z_wrap (As := [.ref (a + 0), .int (xs (x4 + (1 : Int32)).toNatClampNeg), .ref o]) (rest := []) C hN hE hWL hS (mL_formattedByte (xs (x4 + (1 : Int32)).toNatClampNeg) σ r hr w k hk) cwL_formattedByte csL_formattedByte mlL_206 ⟨by decide, by decide⟩ rfl hl.1 (Nat.le_of_ble_eq_true rfl) ⟨Nat.le_trans (Nat.add_le_add_left (show 1 ≤ 4 by decide) _) hcs.1, Nat.le_trans (Nat.add_le_add_left (show 6 ≤ 24 by decide) _) hcs.2⟩ dL_law_1503 rfl (fun H locs hWL hS => ?_)
  refine W.widen (k := cells + 4) (n := slots + 24) (Nat.add_le_add_left (by decide) _) (Nat.add_le_add_left (by decide) _) ?_
  refine lv_istore (lv' := [(5, .int k), (0, .ref b0), (1, .ref (a + 0)), (2, .ref (b + 0)), (3, .ref o), (4, .int x4)]) hx0 hb dL_law_1506 hl (by decide) rfl (fun ls hl => ?_)
  refine lv_aload_n hx0 hb dL_law_1508 rfl (lv_at hl 3 rfl) ?_
  refine lv_aload_n hx0 hb dL_law_1509 rfl (lv_at hl 1 rfl) ?_
  refine lv_iload hx0 hb dL_law_1510 (lv_at hl 5 rfl) ?_
  refine lv_iconst (v := (1 : Int32)) hx0 hb dL_law_1512 (by decide) ?_
  refine lv_iadd hx0 hb dL_law_1513 ?_
  refine va_sld hx0 hb hX hbl hbA hS (hin 1 (by decide)) dL_law_1514 ?_
  refine z_callM (As := [.int (xs (x4 + (1 : Int32)).toNatClampNeg)]) (rest := []) C hE hWL hS (mX12_formattedByte (xs (x4 + (1 : Int32)).toNatClampNeg) τ q hq) cwX12_formattedByte cvX12_formattedByte rfl mlL_208 ⟨by decide, by decide⟩ rfl hl.1 (Nat.le_of_ble_eq_true rfl) ⟨hcs.1, hcs.2⟩ dL_law_1515 rfl (fun H locs hWL hS => ?_)
  refine lv_istore (lv' := [(6, .int q.1), (5, .int k), (0, .ref b0), (1, .ref (a + 0)), (2, .ref (b + 0)), (3, .ref o), (4, .int x4)]) hx0 hb dL_law_1518 hl (by decide) rfl (fun ls hl => ?_)
  refine lv_aload_n hx0 hb dL_law_1520 rfl (lv_at hl 4 rfl) ?_
  refine z_callM (As := []) (rest := []) C hE hWL hS (mX12_thrown q.2 (q.2 0 0) rfl) cwX12_thrown cvX12_thrown rfl mlL_132 ⟨by decide, by decide⟩ rfl hl.1 (Nat.le_of_ble_eq_true rfl) ⟨hcs.1, hcs.2⟩ dL_law_1521 rfl (fun H locs hWL hS => ?_)
  refine lv_iload hx0 hb dL_law_1524 (lv_at hl 1 rfl) ?_
  refine lv_icmp_eq (tgt := 1531) hx0 hb dL_law_1526 (by decide) (fun _ => ?_) (fun z => absurd ht z)
  refine lv_iload hx0 hb dL_law_1531 (lv_at hl 1 rfl) ?_
  refine lv_if_ne (tgt := 1548) hx0 hb dL_law_1533 (by decide) (fun _ => ?_) (fun z => ?_)
  · refine lv_goto (tgt := 2459) hx0 hb dL_law_1548 (by decide) ?_
    exact hend _ _ _ _ _ _ hrel hWL hS (lv_sub hl [2, 3, 4, 5, 6] rfl)
  obtain ⟨v9, e9⟩ : ∃ v, r.1 = .inr v := by
    rcases hk with ⟨v, e, _⟩ | ⟨_, e⟩
    · exact ⟨v, e⟩
    · rw [e] at z; exact absurd z (by decide)
  have e8 : ou r w = q.1.toInt64 := by unfold ou; rw [e9, hv v9 e9]
  refine lv_aload_n hx0 hb dL_law_1536 rfl (lv_at hl 5 rfl) ?_
  refine lv_iconst (v := (0 : Int32)) hx0 hb dL_law_1537 (by decide) ?_
  refine z_lald C hWL.2.2.1 dL_law_1538 ?_
  refine lv_iload hx0 hb dL_law_1539 (lv_at hl 0 rfl) ?_
  refine lv_i2l hx0 hb dL_law_1541 rfl ?_
  refine W.lcmp hx0 hb dL_law_1542 ?_
  rw [e8, lcmp0]
  refine lv_if_eq (tgt := 1548) hx0 hb dL_law_1543 (by decide) (fun _ => ?_) (fun z => absurd rfl z)
  refine lv_goto (tgt := 2459) hx0 hb dL_law_1548 (by decide) ?_
  exact hend _ _ _ _ _ _ hrel hWL hS (lv_sub hl [2, 3, 4, 5, 6] rfl)
def Sim23 (Rel : Mem → Mem → Prop) : Prop := ∀ (σ τ : Mem), Rel σ τ → ∃ (v : Int32) (σ' τ' : Mem), fX11_placeCount 0 σ = some (v, σ') ∧ fX12_placeCount τ = some (v, τ') ∧ Rel σ' τ'
set_option maxRecDepth 100000 in
set_option maxHeartbeats 4000000 in
theorem lc_23 {p : Program} {l : Launch} {e : Env} {s : State} {m : MethodId} {args : Array Value} {below : List Frame} {meth : Method} {c : Code} {E : Ev} {a b o b0 N : Nat} {xs : Nat → Int32} {Q : State → Prop} {Rel : Mem → Mem → Prop} (S : Sim23 Rel) (C : Cx p l s m args meth c E cL_law 7 RL (some .boolean)) (hN : Nx s) (hE : E.2.1 = s.heap) (hX : va_X b0 N xs s s.heap) (hbl : b0 < s.heap.size) {x4 : Int32} (hin : ∀ j : Nat, j < 6 → vp_in (x4 + Int32.ofNat j) N) {σ τ : Mem} {w : Int64} {H : Heap} {locs : List Loc} {cells slots : Nat} {ls : Array Slot} (hcs : cells + 4 ≤ 601024 ∧ slots + 24 ≤ 7293034) (hrel : Rel σ τ) (hWL : WL E a b o σ τ w H) (hS : va_S (An s) s.heap H locs) (hl : lv_has ls 7 [(0, .ref b0), (1, .ref (a + 0)), (2, .ref (b + 0)), (3, .ref o), (4, .int x4)]) (hend : ∀ (σ τ : Mem) (w : Int64) (H : Heap) (locs : List Loc) (ls : Array Slot), Rel σ τ → WL E a b o σ τ w H → va_S (An s) s.heap H locs → lv_has ls 7 [(0, .ref b0), (1, .ref (a + 0)), (2, .ref (b + 0)), (3, .ref o), (4, .int x4)] → W p l e room_1 s m args below meth c H locs (cells + 4) (slots + 24) Q (F0 m 2459 ls [])) : W p l e room_1 s m args below meth c H locs cells slots Q (F0 m 1551 ls []) := by
  have hx0 := C.1
  have hb := C.2.1
  have hbA : ¬ An s b0 := Nat.not_le.mpr hbl
  obtain ⟨v, σ1, τ1, hr, hq, hrel⟩ := S σ τ  hrel
  refine lv_aload_n hx0 hb dL_law_1551 rfl (lv_at hl 1 rfl) ?_
  refine z_callX (As := []) (rest := []) C hE hWL hS (mX11_placeCount 0 kd0 σ (v, σ1) hr) cwX11_placeCount cvX11_placeCount rfl mlL_209 ⟨by decide, by decide⟩ rfl hl.1 (Nat.le_of_ble_eq_true rfl) ⟨by show cells ≤ 601024; omega, by show slots ≤ 7293034; omega⟩ dL_law_1552 rfl (fun H locs hWL hS => ?_)
  refine lv_aload_n hx0 hb dL_law_1555 rfl (lv_at hl 2 rfl) ?_
  refine z_callM (As := []) (rest := [.int v]) C hE hWL hS (mX12_placeCount  τ (v, τ1) hq) cwX12_placeCount cvX12_placeCount rfl mlL_212 ⟨by decide, by decide⟩ rfl hl.1 (Nat.le_of_ble_eq_true rfl) ⟨by show cells ≤ 601024; omega, by show slots ≤ 7293034; omega⟩ dL_law_1556 rfl (fun H locs hWL hS => ?_)
  refine lv_icmp_eq (tgt := 2459) hx0 hb dL_law_1559 (by decide) (fun _ => ?_) (fun z => absurd rfl z)
  refine W.widen (k := cells + 4) (n := slots + 24) (by omega) (by omega) ?_
  exact hend _ _ _ _ _ _ hrel hWL hS (lv_sub hl [0, 1, 2, 3, 4] rfl)
def Sim24 (Rel : Mem → Mem → Prop) : Prop := ∀ (σ τ : Mem) (x1 : Int32) (x2 : Int32), Rel σ τ → ∃ (r : Rx) (q : Int32 × Mem) (k : Int32), fX11_sideAt 0 x1 x2 σ = some r ∧ fX12_sideAt x1 x2 τ = some q ∧ ((∃ v, r.1 = .inr v ∧ k = 0) ∨ (r.1 = .inl 2 ∧ k = 1) ∨ (r.1 = .inl 1 ∧ k = 2)) ∧ (∀ v, r.1 = .inr v → q.1 = v) ∧ q.2 0 0 = k ∧ Rel r.2 q.2
set_option maxRecDepth 100000 in
set_option maxHeartbeats 4000000 in
theorem lc_24 {p : Program} {l : Launch} {e : Env} {s : State} {m : MethodId} {args : Array Value} {below : List Frame} {meth : Method} {c : Code} {E : Ev} {a b o b0 N : Nat} {xs : Nat → Int32} {Q : State → Prop} {Rel : Mem → Mem → Prop} (S : Sim24 Rel) (C : Cx p l s m args meth c E cL_law 7 RL (some .boolean)) (hN : Nx s) (hE : E.2.1 = s.heap) (hX : va_X b0 N xs s s.heap) (hbl : b0 < s.heap.size) {x4 : Int32} (hin : ∀ j : Nat, j < 6 → vp_in (x4 + Int32.ofNat j) N) {σ τ : Mem} {w : Int64} {H : Heap} {locs : List Loc} {cells slots : Nat} {ls : Array Slot} (hcs : cells + 4 ≤ 601024 ∧ slots + 24 ≤ 7293034) (hrel : Rel σ τ) (hWL : WL E a b o σ τ w H) (hS : va_S (An s) s.heap H locs) (hl : lv_has ls 7 [(0, .ref b0), (1, .ref (a + 0)), (2, .ref (b + 0)), (3, .ref o), (4, .int x4)]) (hend : ∀ (σ τ : Mem) (w : Int64) (H : Heap) (locs : List Loc) (ls : Array Slot), Rel σ τ → WL E a b o σ τ w H → va_S (An s) s.heap H locs → lv_has ls 7 [(0, .ref b0), (1, .ref (a + 0)), (2, .ref (b + 0)), (3, .ref o), (4, .int x4)] → W p l e room_1 s m args below meth c H locs (cells + 4) (slots + 24) Q (F0 m 2459 ls [])) : W p l e room_1 s m args below meth c H locs cells slots Q (F0 m 1564 ls []) := by
  have hx0 := C.1
  have hb := C.2.1
  have hbA : ¬ An s b0 := Nat.not_le.mpr hbl
  obtain ⟨r, q, k, hr, hq, hk, hv, ht, hrel⟩ := S σ τ (xs (x4 + (1 : Int32)).toNatClampNeg) (xs (x4 + (2 : Int32)).toNatClampNeg) hrel
  refine lv_aload_n hx0 hb dL_law_1564 rfl (lv_at hl 1 rfl) ?_
  refine lv_aload_n hx0 hb dL_law_1565 rfl (lv_at hl 0 rfl) ?_
  refine lv_iload hx0 hb dL_law_1566 (lv_at hl 4 rfl) ?_
  refine lv_iconst (v := (1 : Int32)) hx0 hb dL_law_1568 (by decide) ?_
  refine lv_iadd hx0 hb dL_law_1569 ?_
  refine va_sld hx0 hb hX hbl hbA hS (hin 1 (by decide)) dL_law_1570 ?_
  refine lv_aload_n hx0 hb dL_law_1571 rfl (lv_at hl 0 rfl) ?_
  refine lv_iload hx0 hb dL_law_1572 (lv_at hl 4 rfl) ?_
  refine lv_iconst (v := (2 : Int32)) hx0 hb dL_law_1574 (by decide) ?_
  refine lv_iadd hx0 hb dL_law_1575 ?_
  refine va_sld hx0 hb hX hbl hbA hS (hin 2 (by decide)) dL_law_1576 ?_
  refine lv_aload_n hx0 hb dL_law_1577 rfl (lv_at hl 3 rfl) ?_
  refine z_wrap (As := [.ref (a + 0), .int (xs (x4 + (1 : Int32)).toNatClampNeg), .int (xs (x4 + (2 : Int32)).toNatClampNeg), .ref o]) (rest := []) C hN hE hWL hS (mL_sideAt (xs (x4 + (1 : Int32)).toNatClampNeg) (xs (x4 + (2 : Int32)).toNatClampNeg) σ r hr w k hk) cwL_sideAt csL_sideAt mlL_213 ⟨by decide, by decide⟩ rfl hl.1 (Nat.le_of_ble_eq_true rfl) ⟨Nat.le_trans (Nat.add_le_add_left (show 2 ≤ 4 by decide) _) hcs.1, Nat.le_trans (Nat.add_le_add_left (show 12 ≤ 24 by decide) _) hcs.2⟩ dL_law_1578 rfl (fun H locs hWL hS => ?_)
  refine W.widen (k := cells + 4) (n := slots + 24) (Nat.add_le_add_left (by decide) _) (Nat.add_le_add_left (by decide) _) ?_
  refine lv_istore (lv' := [(5, .int k), (0, .ref b0), (1, .ref (a + 0)), (2, .ref (b + 0)), (3, .ref o), (4, .int x4)]) hx0 hb dL_law_1581 hl (by decide) rfl (fun ls hl => ?_)
  refine lv_aload_n hx0 hb dL_law_1583 rfl (lv_at hl 3 rfl) ?_
  refine lv_aload_n hx0 hb dL_law_1584 rfl (lv_at hl 1 rfl) ?_
  refine lv_iload hx0 hb dL_law_1585 (lv_at hl 5 rfl) ?_
  refine lv_iconst (v := (1 : Int32)) hx0 hb dL_law_1587 (by decide) ?_
  refine lv_iadd hx0 hb dL_law_1588 ?_
  refine va_sld hx0 hb hX hbl hbA hS (hin 1 (by decide)) dL_law_1589 ?_
  refine lv_aload_n hx0 hb dL_law_1590 rfl (lv_at hl 1 rfl) ?_
  refine lv_iload hx0 hb dL_law_1591 (lv_at hl 5 rfl) ?_
  refine lv_iconst (v := (2 : Int32)) hx0 hb dL_law_1593 (by decide) ?_
  refine lv_iadd hx0 hb dL_law_1594 ?_
  refine va_sld hx0 hb hX hbl hbA hS (hin 2 (by decide)) dL_law_1595 ?_
  refine z_callM (As := [.int (xs (x4 + (1 : Int32)).toNatClampNeg), .int (xs (x4 + (2 : Int32)).toNatClampNeg)]) (rest := []) C hE hWL hS (mX12_sideAt (xs (x4 + (1 : Int32)).toNatClampNeg) (xs (x4 + (2 : Int32)).toNatClampNeg) τ q hq) cwX12_sideAt cvX12_sideAt rfl mlL_215 ⟨by decide, by decide⟩ rfl hl.1 (Nat.le_of_ble_eq_true rfl) ⟨hcs.1, hcs.2⟩ dL_law_1596 rfl (fun H locs hWL hS => ?_)
  refine lv_istore (lv' := [(6, .int q.1), (5, .int k), (0, .ref b0), (1, .ref (a + 0)), (2, .ref (b + 0)), (3, .ref o), (4, .int x4)]) hx0 hb dL_law_1599 hl (by decide) rfl (fun ls hl => ?_)
  refine lv_aload_n hx0 hb dL_law_1601 rfl (lv_at hl 4 rfl) ?_
  refine z_callM (As := []) (rest := []) C hE hWL hS (mX12_thrown q.2 (q.2 0 0) rfl) cwX12_thrown cvX12_thrown rfl mlL_132 ⟨by decide, by decide⟩ rfl hl.1 (Nat.le_of_ble_eq_true rfl) ⟨hcs.1, hcs.2⟩ dL_law_1602 rfl (fun H locs hWL hS => ?_)
  refine lv_iload hx0 hb dL_law_1605 (lv_at hl 1 rfl) ?_
  refine lv_icmp_eq (tgt := 1612) hx0 hb dL_law_1607 (by decide) (fun _ => ?_) (fun z => absurd ht z)
  refine lv_iload hx0 hb dL_law_1612 (lv_at hl 1 rfl) ?_
  refine lv_if_ne (tgt := 1629) hx0 hb dL_law_1614 (by decide) (fun _ => ?_) (fun z => ?_)
  · refine lv_goto (tgt := 2459) hx0 hb dL_law_1629 (by decide) ?_
    exact hend _ _ _ _ _ _ hrel hWL hS (lv_sub hl [2, 3, 4, 5, 6] rfl)
  obtain ⟨v9, e9⟩ : ∃ v, r.1 = .inr v := by
    rcases hk with ⟨v, e, _⟩ | ⟨_, e⟩ | ⟨_, e⟩
    · exact ⟨v, e⟩
    · rw [e] at z; exact absurd z (by decide)
    · rw [e] at z; exact absurd z (by decide)
  have e8 : ou r w = q.1.toInt64 := by unfold ou; rw [e9, hv v9 e9]
  refine lv_aload_n hx0 hb dL_law_1617 rfl (lv_at hl 5 rfl) ?_
  refine lv_iconst (v := (0 : Int32)) hx0 hb dL_law_1618 (by decide) ?_
  refine z_lald C hWL.2.2.1 dL_law_1619 ?_
  refine lv_iload hx0 hb dL_law_1620 (lv_at hl 0 rfl) ?_
  refine lv_i2l hx0 hb dL_law_1622 rfl ?_
  refine W.lcmp hx0 hb dL_law_1623 ?_
  rw [e8, lcmp0]
  refine lv_if_eq (tgt := 1629) hx0 hb dL_law_1624 (by decide) (fun _ => ?_) (fun z => absurd rfl z)
  refine lv_goto (tgt := 2459) hx0 hb dL_law_1629 (by decide) ?_
  exact hend _ _ _ _ _ _ hrel hWL hS (lv_sub hl [2, 3, 4, 5, 6] rfl)
def Sim25 (Rel : Mem → Mem → Prop) : Prop := ∀ (σ τ : Mem) (x1 : Int32) (x2 : Int32), Rel σ τ → ∃ (r : Rx) (q : Int32 × Mem) (k : Int32), fX11_placeOf 0 x1 x2 σ = some r ∧ fX12_placeOf x1 x2 τ = some q ∧ ((∃ v, r.1 = .inr v ∧ k = 0) ∨ (r.1 = .inl 2 ∧ k = 1) ∨ (r.1 = .inl 1 ∧ k = 2)) ∧ (∀ v, r.1 = .inr v → q.1 = v) ∧ q.2 0 0 = k ∧ Rel r.2 q.2
set_option maxRecDepth 100000 in
set_option maxHeartbeats 4000000 in
theorem lc_25 {p : Program} {l : Launch} {e : Env} {s : State} {m : MethodId} {args : Array Value} {below : List Frame} {meth : Method} {c : Code} {E : Ev} {a b o b0 N : Nat} {xs : Nat → Int32} {Q : State → Prop} {Rel : Mem → Mem → Prop} (S : Sim25 Rel) (C : Cx p l s m args meth c E cL_law 7 RL (some .boolean)) (hN : Nx s) (hE : E.2.1 = s.heap) (hX : va_X b0 N xs s s.heap) (hbl : b0 < s.heap.size) {x4 : Int32} (hin : ∀ j : Nat, j < 6 → vp_in (x4 + Int32.ofNat j) N) {σ τ : Mem} {w : Int64} {H : Heap} {locs : List Loc} {cells slots : Nat} {ls : Array Slot} (hcs : cells + 4 ≤ 601024 ∧ slots + 24 ≤ 7293034) (hrel : Rel σ τ) (hWL : WL E a b o σ τ w H) (hS : va_S (An s) s.heap H locs) (hl : lv_has ls 7 [(0, .ref b0), (1, .ref (a + 0)), (2, .ref (b + 0)), (3, .ref o), (4, .int x4)]) (hend : ∀ (σ τ : Mem) (w : Int64) (H : Heap) (locs : List Loc) (ls : Array Slot), Rel σ τ → WL E a b o σ τ w H → va_S (An s) s.heap H locs → lv_has ls 7 [(0, .ref b0), (1, .ref (a + 0)), (2, .ref (b + 0)), (3, .ref o), (4, .int x4)] → W p l e room_1 s m args below meth c H locs (cells + 4) (slots + 24) Q (F0 m 2459 ls [])) : W p l e room_1 s m args below meth c H locs cells slots Q (F0 m 1632 ls []) := by
  have hx0 := C.1
  have hb := C.2.1
  have hbA : ¬ An s b0 := Nat.not_le.mpr hbl
  obtain ⟨r, q, k, hr, hq, hk, hv, ht, hrel⟩ := S σ τ (xs (x4 + (1 : Int32)).toNatClampNeg) (xs (x4 + (2 : Int32)).toNatClampNeg) hrel
  refine lv_aload_n hx0 hb dL_law_1632 rfl (lv_at hl 1 rfl) ?_
  refine lv_aload_n hx0 hb dL_law_1633 rfl (lv_at hl 0 rfl) ?_
  refine lv_iload hx0 hb dL_law_1634 (lv_at hl 4 rfl) ?_
  refine lv_iconst (v := (1 : Int32)) hx0 hb dL_law_1636 (by decide) ?_
  refine lv_iadd hx0 hb dL_law_1637 ?_
  refine va_sld hx0 hb hX hbl hbA hS (hin 1 (by decide)) dL_law_1638 ?_
  refine lv_aload_n hx0 hb dL_law_1639 rfl (lv_at hl 0 rfl) ?_
  refine lv_iload hx0 hb dL_law_1640 (lv_at hl 4 rfl) ?_
  refine lv_iconst (v := (2 : Int32)) hx0 hb dL_law_1642 (by decide) ?_
  refine lv_iadd hx0 hb dL_law_1643 ?_
  refine va_sld hx0 hb hX hbl hbA hS (hin 2 (by decide)) dL_law_1644 ?_
  refine lv_aload_n hx0 hb dL_law_1645 rfl (lv_at hl 3 rfl) ?_
  refine z_wrap (As := [.ref (a + 0), .int (xs (x4 + (1 : Int32)).toNatClampNeg), .int (xs (x4 + (2 : Int32)).toNatClampNeg), .ref o]) (rest := []) C hN hE hWL hS (mL_placeOf (xs (x4 + (1 : Int32)).toNatClampNeg) (xs (x4 + (2 : Int32)).toNatClampNeg) σ r hr w k hk) cwL_placeOf csL_placeOf mlL_216 ⟨by decide, by decide⟩ rfl hl.1 (Nat.le_of_ble_eq_true rfl) ⟨Nat.le_trans (Nat.add_le_add_left (show 2 ≤ 4 by decide) _) hcs.1, Nat.le_trans (Nat.add_le_add_left (show 12 ≤ 24 by decide) _) hcs.2⟩ dL_law_1646 rfl (fun H locs hWL hS => ?_)
  refine W.widen (k := cells + 4) (n := slots + 24) (Nat.add_le_add_left (by decide) _) (Nat.add_le_add_left (by decide) _) ?_
  refine lv_istore (lv' := [(5, .int k), (0, .ref b0), (1, .ref (a + 0)), (2, .ref (b + 0)), (3, .ref o), (4, .int x4)]) hx0 hb dL_law_1649 hl (by decide) rfl (fun ls hl => ?_)
  refine lv_aload_n hx0 hb dL_law_1651 rfl (lv_at hl 3 rfl) ?_
  refine lv_aload_n hx0 hb dL_law_1652 rfl (lv_at hl 1 rfl) ?_
  refine lv_iload hx0 hb dL_law_1653 (lv_at hl 5 rfl) ?_
  refine lv_iconst (v := (1 : Int32)) hx0 hb dL_law_1655 (by decide) ?_
  refine lv_iadd hx0 hb dL_law_1656 ?_
  refine va_sld hx0 hb hX hbl hbA hS (hin 1 (by decide)) dL_law_1657 ?_
  refine lv_aload_n hx0 hb dL_law_1658 rfl (lv_at hl 1 rfl) ?_
  refine lv_iload hx0 hb dL_law_1659 (lv_at hl 5 rfl) ?_
  refine lv_iconst (v := (2 : Int32)) hx0 hb dL_law_1661 (by decide) ?_
  refine lv_iadd hx0 hb dL_law_1662 ?_
  refine va_sld hx0 hb hX hbl hbA hS (hin 2 (by decide)) dL_law_1663 ?_
  refine z_callM (As := [.int (xs (x4 + (1 : Int32)).toNatClampNeg), .int (xs (x4 + (2 : Int32)).toNatClampNeg)]) (rest := []) C hE hWL hS (mX12_placeOf (xs (x4 + (1 : Int32)).toNatClampNeg) (xs (x4 + (2 : Int32)).toNatClampNeg) τ q hq) cwX12_placeOf cvX12_placeOf rfl mlL_218 ⟨by decide, by decide⟩ rfl hl.1 (Nat.le_of_ble_eq_true rfl) ⟨hcs.1, hcs.2⟩ dL_law_1664 rfl (fun H locs hWL hS => ?_)
  refine lv_istore (lv' := [(6, .int q.1), (5, .int k), (0, .ref b0), (1, .ref (a + 0)), (2, .ref (b + 0)), (3, .ref o), (4, .int x4)]) hx0 hb dL_law_1667 hl (by decide) rfl (fun ls hl => ?_)
  refine lv_aload_n hx0 hb dL_law_1669 rfl (lv_at hl 4 rfl) ?_
  refine z_callM (As := []) (rest := []) C hE hWL hS (mX12_thrown q.2 (q.2 0 0) rfl) cwX12_thrown cvX12_thrown rfl mlL_132 ⟨by decide, by decide⟩ rfl hl.1 (Nat.le_of_ble_eq_true rfl) ⟨hcs.1, hcs.2⟩ dL_law_1670 rfl (fun H locs hWL hS => ?_)
  refine lv_iload hx0 hb dL_law_1673 (lv_at hl 1 rfl) ?_
  refine lv_icmp_eq (tgt := 1680) hx0 hb dL_law_1675 (by decide) (fun _ => ?_) (fun z => absurd ht z)
  refine lv_iload hx0 hb dL_law_1680 (lv_at hl 1 rfl) ?_
  refine lv_if_ne (tgt := 1697) hx0 hb dL_law_1682 (by decide) (fun _ => ?_) (fun z => ?_)
  · refine lv_goto (tgt := 2459) hx0 hb dL_law_1697 (by decide) ?_
    exact hend _ _ _ _ _ _ hrel hWL hS (lv_sub hl [2, 3, 4, 5, 6] rfl)
  obtain ⟨v9, e9⟩ : ∃ v, r.1 = .inr v := by
    rcases hk with ⟨v, e, _⟩ | ⟨_, e⟩ | ⟨_, e⟩
    · exact ⟨v, e⟩
    · rw [e] at z; exact absurd z (by decide)
    · rw [e] at z; exact absurd z (by decide)
  have e8 : ou r w = q.1.toInt64 := by unfold ou; rw [e9, hv v9 e9]
  refine lv_aload_n hx0 hb dL_law_1685 rfl (lv_at hl 5 rfl) ?_
  refine lv_iconst (v := (0 : Int32)) hx0 hb dL_law_1686 (by decide) ?_
  refine z_lald C hWL.2.2.1 dL_law_1687 ?_
  refine lv_iload hx0 hb dL_law_1688 (lv_at hl 0 rfl) ?_
  refine lv_i2l hx0 hb dL_law_1690 rfl ?_
  refine W.lcmp hx0 hb dL_law_1691 ?_
  rw [e8, lcmp0]
  refine lv_if_eq (tgt := 1697) hx0 hb dL_law_1692 (by decide) (fun _ => ?_) (fun z => absurd rfl z)
  refine lv_goto (tgt := 2459) hx0 hb dL_law_1697 (by decide) ?_
  exact hend _ _ _ _ _ _ hrel hWL hS (lv_sub hl [2, 3, 4, 5, 6] rfl)
def Sim26 (Rel : Mem → Mem → Prop) : Prop := ∀ (σ τ : Mem) (x1 : Int32), Rel σ τ → ∃ (r : Rx) (q : Int32 × Mem) (k : Int32), fX11_formatLabel 0 x1 σ = some r ∧ fX12_formatLabel x1 τ = some q ∧ ((∃ v, r.1 = .inr v ∧ k = 0) ∨ (r.1 = .inl 2 ∧ k = 1)) ∧ (∀ v, r.1 = .inr v → q.1 = v) ∧ q.2 0 0 = k ∧ Rel r.2 q.2
set_option maxRecDepth 100000 in
set_option maxHeartbeats 4000000 in
theorem lc_26 {p : Program} {l : Launch} {e : Env} {s : State} {m : MethodId} {args : Array Value} {below : List Frame} {meth : Method} {c : Code} {E : Ev} {a b o b0 N : Nat} {xs : Nat → Int32} {Q : State → Prop} {Rel : Mem → Mem → Prop} (S : Sim26 Rel) (C : Cx p l s m args meth c E cL_law 7 RL (some .boolean)) (hN : Nx s) (hE : E.2.1 = s.heap) (hX : va_X b0 N xs s s.heap) (hbl : b0 < s.heap.size) {x4 : Int32} (hin : ∀ j : Nat, j < 6 → vp_in (x4 + Int32.ofNat j) N) {σ τ : Mem} {w : Int64} {H : Heap} {locs : List Loc} {cells slots : Nat} {ls : Array Slot} (hcs : cells + 4 ≤ 601024 ∧ slots + 24 ≤ 7293034) (hrel : Rel σ τ) (hWL : WL E a b o σ τ w H) (hS : va_S (An s) s.heap H locs) (hl : lv_has ls 7 [(0, .ref b0), (1, .ref (a + 0)), (2, .ref (b + 0)), (3, .ref o), (4, .int x4)]) (hend : ∀ (σ τ : Mem) (w : Int64) (H : Heap) (locs : List Loc) (ls : Array Slot), Rel σ τ → WL E a b o σ τ w H → va_S (An s) s.heap H locs → lv_has ls 7 [(0, .ref b0), (1, .ref (a + 0)), (2, .ref (b + 0)), (3, .ref o), (4, .int x4)] → W p l e room_1 s m args below meth c H locs (cells + 4) (slots + 24) Q (F0 m 2459 ls [])) : W p l e room_1 s m args below meth c H locs cells slots Q (F0 m 1700 ls []) := by
  have hx0 := C.1
  have hb := C.2.1
  have hbA : ¬ An s b0 := Nat.not_le.mpr hbl
  obtain ⟨r, q, k, hr, hq, hk, hv, ht, hrel⟩ := S σ τ (xs (x4 + (1 : Int32)).toNatClampNeg) hrel
  refine lv_aload_n hx0 hb dL_law_1700 rfl (lv_at hl 1 rfl) ?_
  refine lv_aload_n hx0 hb dL_law_1701 rfl (lv_at hl 0 rfl) ?_
  refine lv_iload hx0 hb dL_law_1702 (lv_at hl 4 rfl) ?_
  refine lv_iconst (v := (1 : Int32)) hx0 hb dL_law_1704 (by decide) ?_
  refine lv_iadd hx0 hb dL_law_1705 ?_
  refine va_sld hx0 hb hX hbl hbA hS (hin 1 (by decide)) dL_law_1706 ?_
  refine lv_aload_n hx0 hb dL_law_1707 rfl (lv_at hl 3 rfl) ?_
  refine z_wrap (As := [.ref (a + 0), .int (xs (x4 + (1 : Int32)).toNatClampNeg), .ref o]) (rest := []) C hN hE hWL hS (mL_formatLabel (xs (x4 + (1 : Int32)).toNatClampNeg) σ r hr w k hk) cwL_formatLabel csL_formatLabel mlL_219 ⟨by decide, by decide⟩ rfl hl.1 (Nat.le_of_ble_eq_true rfl) ⟨Nat.le_trans (Nat.add_le_add_left (show 1 ≤ 4 by decide) _) hcs.1, Nat.le_trans (Nat.add_le_add_left (show 6 ≤ 24 by decide) _) hcs.2⟩ dL_law_1708 rfl (fun H locs hWL hS => ?_)
  refine W.widen (k := cells + 4) (n := slots + 24) (Nat.add_le_add_left (by decide) _) (Nat.add_le_add_left (by decide) _) ?_
  refine lv_istore (lv' := [(5, .int k), (0, .ref b0), (1, .ref (a + 0)), (2, .ref (b + 0)), (3, .ref o), (4, .int x4)]) hx0 hb dL_law_1711 hl (by decide) rfl (fun ls hl => ?_)
  refine lv_aload_n hx0 hb dL_law_1713 rfl (lv_at hl 3 rfl) ?_
  refine lv_aload_n hx0 hb dL_law_1714 rfl (lv_at hl 1 rfl) ?_
  refine lv_iload hx0 hb dL_law_1715 (lv_at hl 5 rfl) ?_
  refine lv_iconst (v := (1 : Int32)) hx0 hb dL_law_1717 (by decide) ?_
  refine lv_iadd hx0 hb dL_law_1718 ?_
  refine va_sld hx0 hb hX hbl hbA hS (hin 1 (by decide)) dL_law_1719 ?_
  refine z_callM (As := [.int (xs (x4 + (1 : Int32)).toNatClampNeg)]) (rest := []) C hE hWL hS (mX12_formatLabel (xs (x4 + (1 : Int32)).toNatClampNeg) τ q hq) cwX12_formatLabel cvX12_formatLabel rfl mlL_221 ⟨by decide, by decide⟩ rfl hl.1 (Nat.le_of_ble_eq_true rfl) ⟨hcs.1, hcs.2⟩ dL_law_1720 rfl (fun H locs hWL hS => ?_)
  refine lv_istore (lv' := [(6, .int q.1), (5, .int k), (0, .ref b0), (1, .ref (a + 0)), (2, .ref (b + 0)), (3, .ref o), (4, .int x4)]) hx0 hb dL_law_1723 hl (by decide) rfl (fun ls hl => ?_)
  refine lv_aload_n hx0 hb dL_law_1725 rfl (lv_at hl 4 rfl) ?_
  refine z_callM (As := []) (rest := []) C hE hWL hS (mX12_thrown q.2 (q.2 0 0) rfl) cwX12_thrown cvX12_thrown rfl mlL_132 ⟨by decide, by decide⟩ rfl hl.1 (Nat.le_of_ble_eq_true rfl) ⟨hcs.1, hcs.2⟩ dL_law_1726 rfl (fun H locs hWL hS => ?_)
  refine lv_iload hx0 hb dL_law_1729 (lv_at hl 1 rfl) ?_
  refine lv_icmp_eq (tgt := 1736) hx0 hb dL_law_1731 (by decide) (fun _ => ?_) (fun z => absurd ht z)
  refine lv_iload hx0 hb dL_law_1736 (lv_at hl 1 rfl) ?_
  refine lv_if_ne (tgt := 1753) hx0 hb dL_law_1738 (by decide) (fun _ => ?_) (fun z => ?_)
  · refine lv_goto (tgt := 2459) hx0 hb dL_law_1753 (by decide) ?_
    exact hend _ _ _ _ _ _ hrel hWL hS (lv_sub hl [2, 3, 4, 5, 6] rfl)
  obtain ⟨v9, e9⟩ : ∃ v, r.1 = .inr v := by
    rcases hk with ⟨v, e, _⟩ | ⟨_, e⟩
    · exact ⟨v, e⟩
    · rw [e] at z; exact absurd z (by decide)
  have e8 : ou r w = q.1.toInt64 := by unfold ou; rw [e9, hv v9 e9]
  refine lv_aload_n hx0 hb dL_law_1741 rfl (lv_at hl 5 rfl) ?_
  refine lv_iconst (v := (0 : Int32)) hx0 hb dL_law_1742 (by decide) ?_
  refine z_lald C hWL.2.2.1 dL_law_1743 ?_
  refine lv_iload hx0 hb dL_law_1744 (lv_at hl 0 rfl) ?_
  refine lv_i2l hx0 hb dL_law_1746 rfl ?_
  refine W.lcmp hx0 hb dL_law_1747 ?_
  rw [e8, lcmp0]
  refine lv_if_eq (tgt := 1753) hx0 hb dL_law_1748 (by decide) (fun _ => ?_) (fun z => absurd rfl z)
  refine lv_goto (tgt := 2459) hx0 hb dL_law_1753 (by decide) ?_
  exact hend _ _ _ _ _ _ hrel hWL hS (lv_sub hl [2, 3, 4, 5, 6] rfl)
def Sim27 (Rel : Mem → Mem → Prop) : Prop := ∀ (σ τ : Mem) (x1 : Int32) (x2 : Int32), Rel σ τ → ∃ (r : Rx) (q : Int32 × Mem) (k : Int32), fX11_formatLeafLabel 0 x1 x2 σ = some r ∧ fX12_formatLeafLabel x1 x2 τ = some q ∧ ((∃ v, r.1 = .inr v ∧ k = 0) ∨ (r.1 = .inl 2 ∧ k = 1) ∨ (r.1 = .inl 1 ∧ k = 2)) ∧ (∀ v, r.1 = .inr v → q.1 = v) ∧ q.2 0 0 = k ∧ Rel r.2 q.2
set_option maxRecDepth 100000 in
set_option maxHeartbeats 4000000 in
theorem lc_27 {p : Program} {l : Launch} {e : Env} {s : State} {m : MethodId} {args : Array Value} {below : List Frame} {meth : Method} {c : Code} {E : Ev} {a b o b0 N : Nat} {xs : Nat → Int32} {Q : State → Prop} {Rel : Mem → Mem → Prop} (S : Sim27 Rel) (C : Cx p l s m args meth c E cL_law 7 RL (some .boolean)) (hN : Nx s) (hE : E.2.1 = s.heap) (hX : va_X b0 N xs s s.heap) (hbl : b0 < s.heap.size) {x4 : Int32} (hin : ∀ j : Nat, j < 6 → vp_in (x4 + Int32.ofNat j) N) {σ τ : Mem} {w : Int64} {H : Heap} {locs : List Loc} {cells slots : Nat} {ls : Array Slot} (hcs : cells + 4 ≤ 601024 ∧ slots + 24 ≤ 7293034) (hrel : Rel σ τ) (hWL : WL E a b o σ τ w H) (hS : va_S (An s) s.heap H locs) (hl : lv_has ls 7 [(0, .ref b0), (1, .ref (a + 0)), (2, .ref (b + 0)), (3, .ref o), (4, .int x4)]) (hend : ∀ (σ τ : Mem) (w : Int64) (H : Heap) (locs : List Loc) (ls : Array Slot), Rel σ τ → WL E a b o σ τ w H → va_S (An s) s.heap H locs → lv_has ls 7 [(0, .ref b0), (1, .ref (a + 0)), (2, .ref (b + 0)), (3, .ref o), (4, .int x4)] → W p l e room_1 s m args below meth c H locs (cells + 4) (slots + 24) Q (F0 m 2459 ls [])) : W p l e room_1 s m args below meth c H locs cells slots Q (F0 m 1756 ls []) := by
  have hx0 := C.1
  have hb := C.2.1
  have hbA : ¬ An s b0 := Nat.not_le.mpr hbl
  obtain ⟨r, q, k, hr, hq, hk, hv, ht, hrel⟩ := S σ τ (xs (x4 + (1 : Int32)).toNatClampNeg) (xs (x4 + (2 : Int32)).toNatClampNeg) hrel
  refine lv_aload_n hx0 hb dL_law_1756 rfl (lv_at hl 1 rfl) ?_
  refine lv_aload_n hx0 hb dL_law_1757 rfl (lv_at hl 0 rfl) ?_
  refine lv_iload hx0 hb dL_law_1758 (lv_at hl 4 rfl) ?_
  refine lv_iconst (v := (1 : Int32)) hx0 hb dL_law_1760 (by decide) ?_
  refine lv_iadd hx0 hb dL_law_1761 ?_
  refine va_sld hx0 hb hX hbl hbA hS (hin 1 (by decide)) dL_law_1762 ?_
  refine lv_aload_n hx0 hb dL_law_1763 rfl (lv_at hl 0 rfl) ?_
  refine lv_iload hx0 hb dL_law_1764 (lv_at hl 4 rfl) ?_
  refine lv_iconst (v := (2 : Int32)) hx0 hb dL_law_1766 (by decide) ?_
  refine lv_iadd hx0 hb dL_law_1767 ?_
  refine va_sld hx0 hb hX hbl hbA hS (hin 2 (by decide)) dL_law_1768 ?_
  refine lv_aload_n hx0 hb dL_law_1769 rfl (lv_at hl 3 rfl) ?_
  refine z_wrap (As := [.ref (a + 0), .int (xs (x4 + (1 : Int32)).toNatClampNeg), .int (xs (x4 + (2 : Int32)).toNatClampNeg), .ref o]) (rest := []) C hN hE hWL hS (mL_formatLeafLabel (xs (x4 + (1 : Int32)).toNatClampNeg) (xs (x4 + (2 : Int32)).toNatClampNeg) σ r hr w k hk) cwL_formatLeafLabel csL_formatLeafLabel mlL_222 ⟨by decide, by decide⟩ rfl hl.1 (Nat.le_of_ble_eq_true rfl) ⟨Nat.le_trans (Nat.add_le_add_left (show 2 ≤ 4 by decide) _) hcs.1, Nat.le_trans (Nat.add_le_add_left (show 12 ≤ 24 by decide) _) hcs.2⟩ dL_law_1770 rfl (fun H locs hWL hS => ?_)
  refine W.widen (k := cells + 4) (n := slots + 24) (Nat.add_le_add_left (by decide) _) (Nat.add_le_add_left (by decide) _) ?_
  refine lv_istore (lv' := [(5, .int k), (0, .ref b0), (1, .ref (a + 0)), (2, .ref (b + 0)), (3, .ref o), (4, .int x4)]) hx0 hb dL_law_1773 hl (by decide) rfl (fun ls hl => ?_)
  refine lv_aload_n hx0 hb dL_law_1775 rfl (lv_at hl 3 rfl) ?_
  refine lv_aload_n hx0 hb dL_law_1776 rfl (lv_at hl 1 rfl) ?_
  refine lv_iload hx0 hb dL_law_1777 (lv_at hl 5 rfl) ?_
  refine lv_iconst (v := (1 : Int32)) hx0 hb dL_law_1779 (by decide) ?_
  refine lv_iadd hx0 hb dL_law_1780 ?_
  refine va_sld hx0 hb hX hbl hbA hS (hin 1 (by decide)) dL_law_1781 ?_
  refine lv_aload_n hx0 hb dL_law_1782 rfl (lv_at hl 1 rfl) ?_
  refine lv_iload hx0 hb dL_law_1783 (lv_at hl 5 rfl) ?_
  refine lv_iconst (v := (2 : Int32)) hx0 hb dL_law_1785 (by decide) ?_
  refine lv_iadd hx0 hb dL_law_1786 ?_
  refine va_sld hx0 hb hX hbl hbA hS (hin 2 (by decide)) dL_law_1787 ?_
  refine z_callM (As := [.int (xs (x4 + (1 : Int32)).toNatClampNeg), .int (xs (x4 + (2 : Int32)).toNatClampNeg)]) (rest := []) C hE hWL hS (mX12_formatLeafLabel (xs (x4 + (1 : Int32)).toNatClampNeg) (xs (x4 + (2 : Int32)).toNatClampNeg) τ q hq) cwX12_formatLeafLabel cvX12_formatLeafLabel rfl mlL_224 ⟨by decide, by decide⟩ rfl hl.1 (Nat.le_of_ble_eq_true rfl) ⟨hcs.1, hcs.2⟩ dL_law_1788 rfl (fun H locs hWL hS => ?_)
  refine lv_istore (lv' := [(6, .int q.1), (5, .int k), (0, .ref b0), (1, .ref (a + 0)), (2, .ref (b + 0)), (3, .ref o), (4, .int x4)]) hx0 hb dL_law_1791 hl (by decide) rfl (fun ls hl => ?_)
  refine lv_aload_n hx0 hb dL_law_1793 rfl (lv_at hl 4 rfl) ?_
  refine z_callM (As := []) (rest := []) C hE hWL hS (mX12_thrown q.2 (q.2 0 0) rfl) cwX12_thrown cvX12_thrown rfl mlL_132 ⟨by decide, by decide⟩ rfl hl.1 (Nat.le_of_ble_eq_true rfl) ⟨hcs.1, hcs.2⟩ dL_law_1794 rfl (fun H locs hWL hS => ?_)
  refine lv_iload hx0 hb dL_law_1797 (lv_at hl 1 rfl) ?_
  refine lv_icmp_eq (tgt := 1804) hx0 hb dL_law_1799 (by decide) (fun _ => ?_) (fun z => absurd ht z)
  refine lv_iload hx0 hb dL_law_1804 (lv_at hl 1 rfl) ?_
  refine lv_if_ne (tgt := 1821) hx0 hb dL_law_1806 (by decide) (fun _ => ?_) (fun z => ?_)
  · refine lv_goto (tgt := 2459) hx0 hb dL_law_1821 (by decide) ?_
    exact hend _ _ _ _ _ _ hrel hWL hS (lv_sub hl [2, 3, 4, 5, 6] rfl)
  obtain ⟨v9, e9⟩ : ∃ v, r.1 = .inr v := by
    rcases hk with ⟨v, e, _⟩ | ⟨_, e⟩ | ⟨_, e⟩
    · exact ⟨v, e⟩
    · rw [e] at z; exact absurd z (by decide)
    · rw [e] at z; exact absurd z (by decide)
  have e8 : ou r w = q.1.toInt64 := by unfold ou; rw [e9, hv v9 e9]
  refine lv_aload_n hx0 hb dL_law_1809 rfl (lv_at hl 5 rfl) ?_
  refine lv_iconst (v := (0 : Int32)) hx0 hb dL_law_1810 (by decide) ?_
  refine z_lald C hWL.2.2.1 dL_law_1811 ?_
  refine lv_iload hx0 hb dL_law_1812 (lv_at hl 0 rfl) ?_
  refine lv_i2l hx0 hb dL_law_1814 rfl ?_
  refine W.lcmp hx0 hb dL_law_1815 ?_
  rw [e8, lcmp0]
  refine lv_if_eq (tgt := 1821) hx0 hb dL_law_1816 (by decide) (fun _ => ?_) (fun z => absurd rfl z)
  refine lv_goto (tgt := 2459) hx0 hb dL_law_1821 (by decide) ?_
  exact hend _ _ _ _ _ _ hrel hWL hS (lv_sub hl [2, 3, 4, 5, 6] rfl)
def Sim28 (Rel : Mem → Mem → Prop) : Prop := ∀ (σ τ : Mem) (x1 : Int32), Rel σ τ → ∃ (r : Rx) (q : Int32 × Mem) (k : Int32), fX11_findLabel 0 x1 σ = some r ∧ fX12_findLabel x1 τ = some q ∧ ((∃ v, r.1 = .inr v ∧ k = 0) ∨ (r.1 = .inl 1 ∧ k = 1)) ∧ (∀ v, r.1 = .inr v → q.1 = v) ∧ q.2 0 0 = k ∧ Rel r.2 q.2
set_option maxRecDepth 100000 in
set_option maxHeartbeats 4000000 in
theorem lc_28 {p : Program} {l : Launch} {e : Env} {s : State} {m : MethodId} {args : Array Value} {below : List Frame} {meth : Method} {c : Code} {E : Ev} {a b o b0 N : Nat} {xs : Nat → Int32} {Q : State → Prop} {Rel : Mem → Mem → Prop} (S : Sim28 Rel) (C : Cx p l s m args meth c E cL_law 7 RL (some .boolean)) (hN : Nx s) (hE : E.2.1 = s.heap) (hX : va_X b0 N xs s s.heap) (hbl : b0 < s.heap.size) {x4 : Int32} (hin : ∀ j : Nat, j < 6 → vp_in (x4 + Int32.ofNat j) N) {σ τ : Mem} {w : Int64} {H : Heap} {locs : List Loc} {cells slots : Nat} {ls : Array Slot} (hcs : cells + 4 ≤ 601024 ∧ slots + 24 ≤ 7293034) (hrel : Rel σ τ) (hWL : WL E a b o σ τ w H) (hS : va_S (An s) s.heap H locs) (hl : lv_has ls 7 [(0, .ref b0), (1, .ref (a + 0)), (2, .ref (b + 0)), (3, .ref o), (4, .int x4)]) (hend : ∀ (σ τ : Mem) (w : Int64) (H : Heap) (locs : List Loc) (ls : Array Slot), Rel σ τ → WL E a b o σ τ w H → va_S (An s) s.heap H locs → lv_has ls 7 [(0, .ref b0), (1, .ref (a + 0)), (2, .ref (b + 0)), (3, .ref o), (4, .int x4)] → W p l e room_1 s m args below meth c H locs (cells + 4) (slots + 24) Q (F0 m 2459 ls [])) : W p l e room_1 s m args below meth c H locs cells slots Q (F0 m 1824 ls []) := by
  have hx0 := C.1
  have hb := C.2.1
  have hbA : ¬ An s b0 := Nat.not_le.mpr hbl
  obtain ⟨r, q, k, hr, hq, hk, hv, ht, hrel⟩ := S σ τ (xs (x4 + (1 : Int32)).toNatClampNeg) hrel
  refine lv_aload_n hx0 hb dL_law_1824 rfl (lv_at hl 1 rfl) ?_
  refine lv_aload_n hx0 hb dL_law_1825 rfl (lv_at hl 0 rfl) ?_
  refine lv_iload hx0 hb dL_law_1826 (lv_at hl 4 rfl) ?_
  refine lv_iconst (v := (1 : Int32)) hx0 hb dL_law_1828 (by decide) ?_
  refine lv_iadd hx0 hb dL_law_1829 ?_
  refine va_sld hx0 hb hX hbl hbA hS (hin 1 (by decide)) dL_law_1830 ?_
  refine lv_aload_n hx0 hb dL_law_1831 rfl (lv_at hl 3 rfl) ?_
  refine z_wrap (As := [.ref (a + 0), .int (xs (x4 + (1 : Int32)).toNatClampNeg), .ref o]) (rest := []) C hN hE hWL hS (mL_findLabel (xs (x4 + (1 : Int32)).toNatClampNeg) σ r hr w k hk) cwL_findLabel csL_findLabel mlL_225 ⟨by decide, by decide⟩ rfl hl.1 (Nat.le_of_ble_eq_true rfl) ⟨Nat.le_trans (Nat.add_le_add_left (show 1 ≤ 4 by decide) _) hcs.1, Nat.le_trans (Nat.add_le_add_left (show 6 ≤ 24 by decide) _) hcs.2⟩ dL_law_1832 rfl (fun H locs hWL hS => ?_)
  refine W.widen (k := cells + 4) (n := slots + 24) (Nat.add_le_add_left (by decide) _) (Nat.add_le_add_left (by decide) _) ?_
  refine lv_istore (lv' := [(5, .int k), (0, .ref b0), (1, .ref (a + 0)), (2, .ref (b + 0)), (3, .ref o), (4, .int x4)]) hx0 hb dL_law_1835 hl (by decide) rfl (fun ls hl => ?_)
  refine lv_aload_n hx0 hb dL_law_1837 rfl (lv_at hl 3 rfl) ?_
  refine lv_aload_n hx0 hb dL_law_1838 rfl (lv_at hl 1 rfl) ?_
  refine lv_iload hx0 hb dL_law_1839 (lv_at hl 5 rfl) ?_
  refine lv_iconst (v := (1 : Int32)) hx0 hb dL_law_1841 (by decide) ?_
  refine lv_iadd hx0 hb dL_law_1842 ?_
  refine va_sld hx0 hb hX hbl hbA hS (hin 1 (by decide)) dL_law_1843 ?_
  refine z_callM (As := [.int (xs (x4 + (1 : Int32)).toNatClampNeg)]) (rest := []) C hE hWL hS (mX12_findLabel (xs (x4 + (1 : Int32)).toNatClampNeg) τ q hq) cwX12_findLabel cvX12_findLabel rfl mlL_227 ⟨by decide, by decide⟩ rfl hl.1 (Nat.le_of_ble_eq_true rfl) ⟨hcs.1, hcs.2⟩ dL_law_1844 rfl (fun H locs hWL hS => ?_)
  refine lv_istore (lv' := [(6, .int q.1), (5, .int k), (0, .ref b0), (1, .ref (a + 0)), (2, .ref (b + 0)), (3, .ref o), (4, .int x4)]) hx0 hb dL_law_1847 hl (by decide) rfl (fun ls hl => ?_)
  refine lv_aload_n hx0 hb dL_law_1849 rfl (lv_at hl 4 rfl) ?_
  refine z_callM (As := []) (rest := []) C hE hWL hS (mX12_thrown q.2 (q.2 0 0) rfl) cwX12_thrown cvX12_thrown rfl mlL_132 ⟨by decide, by decide⟩ rfl hl.1 (Nat.le_of_ble_eq_true rfl) ⟨hcs.1, hcs.2⟩ dL_law_1850 rfl (fun H locs hWL hS => ?_)
  refine lv_iload hx0 hb dL_law_1853 (lv_at hl 1 rfl) ?_
  refine lv_icmp_eq (tgt := 1860) hx0 hb dL_law_1855 (by decide) (fun _ => ?_) (fun z => absurd ht z)
  refine lv_iload hx0 hb dL_law_1860 (lv_at hl 1 rfl) ?_
  refine lv_if_ne (tgt := 1877) hx0 hb dL_law_1862 (by decide) (fun _ => ?_) (fun z => ?_)
  · refine lv_goto (tgt := 2459) hx0 hb dL_law_1877 (by decide) ?_
    exact hend _ _ _ _ _ _ hrel hWL hS (lv_sub hl [2, 3, 4, 5, 6] rfl)
  obtain ⟨v9, e9⟩ : ∃ v, r.1 = .inr v := by
    rcases hk with ⟨v, e, _⟩ | ⟨_, e⟩
    · exact ⟨v, e⟩
    · rw [e] at z; exact absurd z (by decide)
  have e8 : ou r w = q.1.toInt64 := by unfold ou; rw [e9, hv v9 e9]
  refine lv_aload_n hx0 hb dL_law_1865 rfl (lv_at hl 5 rfl) ?_
  refine lv_iconst (v := (0 : Int32)) hx0 hb dL_law_1866 (by decide) ?_
  refine z_lald C hWL.2.2.1 dL_law_1867 ?_
  refine lv_iload hx0 hb dL_law_1868 (lv_at hl 0 rfl) ?_
  refine lv_i2l hx0 hb dL_law_1870 rfl ?_
  refine W.lcmp hx0 hb dL_law_1871 ?_
  rw [e8, lcmp0]
  refine lv_if_eq (tgt := 1877) hx0 hb dL_law_1872 (by decide) (fun _ => ?_) (fun z => absurd rfl z)
  refine lv_goto (tgt := 2459) hx0 hb dL_law_1877 (by decide) ?_
  exact hend _ _ _ _ _ _ hrel hWL hS (lv_sub hl [2, 3, 4, 5, 6] rfl)
def Sim29 (Rel : Mem → Mem → Prop) : Prop := ∀ (σ τ : Mem) (x1 : Int32), Rel σ τ → ∃ (r : Rx) (q : Int32 × Mem) (k : Int32), fX11_sameLabels 0 x1 σ = some r ∧ fX12_sameLabels x1 τ = some q ∧ ((∃ v, r.1 = .inr v ∧ k = 0) ∨ (r.1 = .inl 2 ∧ k = 1)) ∧ (∀ v, r.1 = .inr v → q.1 = v) ∧ q.2 0 0 = k ∧ Rel r.2 q.2
set_option maxRecDepth 100000 in
set_option maxHeartbeats 4000000 in
theorem lc_29 {p : Program} {l : Launch} {e : Env} {s : State} {m : MethodId} {args : Array Value} {below : List Frame} {meth : Method} {c : Code} {E : Ev} {a b o b0 N : Nat} {xs : Nat → Int32} {Q : State → Prop} {Rel : Mem → Mem → Prop} (S : Sim29 Rel) (C : Cx p l s m args meth c E cL_law 7 RL (some .boolean)) (hN : Nx s) (hE : E.2.1 = s.heap) (hX : va_X b0 N xs s s.heap) (hbl : b0 < s.heap.size) {x4 : Int32} (hin : ∀ j : Nat, j < 6 → vp_in (x4 + Int32.ofNat j) N) {σ τ : Mem} {w : Int64} {H : Heap} {locs : List Loc} {cells slots : Nat} {ls : Array Slot} (hcs : cells + 4 ≤ 601024 ∧ slots + 24 ≤ 7293034) (hrel : Rel σ τ) (hWL : WL E a b o σ τ w H) (hS : va_S (An s) s.heap H locs) (hl : lv_has ls 7 [(0, .ref b0), (1, .ref (a + 0)), (2, .ref (b + 0)), (3, .ref o), (4, .int x4)]) (hend : ∀ (σ τ : Mem) (w : Int64) (H : Heap) (locs : List Loc) (ls : Array Slot), Rel σ τ → WL E a b o σ τ w H → va_S (An s) s.heap H locs → lv_has ls 7 [(0, .ref b0), (1, .ref (a + 0)), (2, .ref (b + 0)), (3, .ref o), (4, .int x4)] → W p l e room_1 s m args below meth c H locs (cells + 4) (slots + 24) Q (F0 m 2459 ls [])) : W p l e room_1 s m args below meth c H locs cells slots Q (F0 m 1880 ls []) := by
  have hx0 := C.1
  have hb := C.2.1
  have hbA : ¬ An s b0 := Nat.not_le.mpr hbl
  obtain ⟨r, q, k, hr, hq, hk, hv, ht, hrel⟩ := S σ τ (xs (x4 + (1 : Int32)).toNatClampNeg) hrel
  refine lv_aload_n hx0 hb dL_law_1880 rfl (lv_at hl 1 rfl) ?_
  refine lv_aload_n hx0 hb dL_law_1881 rfl (lv_at hl 0 rfl) ?_
  refine lv_iload hx0 hb dL_law_1882 (lv_at hl 4 rfl) ?_
  refine lv_iconst (v := (1 : Int32)) hx0 hb dL_law_1884 (by decide) ?_
  refine lv_iadd hx0 hb dL_law_1885 ?_
  refine va_sld hx0 hb hX hbl hbA hS (hin 1 (by decide)) dL_law_1886 ?_
  refine lv_aload_n hx0 hb dL_law_1887 rfl (lv_at hl 3 rfl) ?_
  refine z_wrap (As := [.ref (a + 0), .int (xs (x4 + (1 : Int32)).toNatClampNeg), .ref o]) (rest := []) C hN hE hWL hS (mL_sameLabels (xs (x4 + (1 : Int32)).toNatClampNeg) σ r hr w k hk) cwL_sameLabels csL_sameLabels mlL_228 ⟨by decide, by decide⟩ rfl hl.1 (Nat.le_of_ble_eq_true rfl) ⟨Nat.le_trans (Nat.add_le_add_left (show 1 ≤ 4 by decide) _) hcs.1, Nat.le_trans (Nat.add_le_add_left (show 6 ≤ 24 by decide) _) hcs.2⟩ dL_law_1888 rfl (fun H locs hWL hS => ?_)
  refine W.widen (k := cells + 4) (n := slots + 24) (Nat.add_le_add_left (by decide) _) (Nat.add_le_add_left (by decide) _) ?_
  refine lv_istore (lv' := [(5, .int k), (0, .ref b0), (1, .ref (a + 0)), (2, .ref (b + 0)), (3, .ref o), (4, .int x4)]) hx0 hb dL_law_1891 hl (by decide) rfl (fun ls hl => ?_)
  refine lv_aload_n hx0 hb dL_law_1893 rfl (lv_at hl 3 rfl) ?_
  refine lv_aload_n hx0 hb dL_law_1894 rfl (lv_at hl 1 rfl) ?_
  refine lv_iload hx0 hb dL_law_1895 (lv_at hl 5 rfl) ?_
  refine lv_iconst (v := (1 : Int32)) hx0 hb dL_law_1897 (by decide) ?_
  refine lv_iadd hx0 hb dL_law_1898 ?_
  refine va_sld hx0 hb hX hbl hbA hS (hin 1 (by decide)) dL_law_1899 ?_
  refine z_callM (As := [.int (xs (x4 + (1 : Int32)).toNatClampNeg)]) (rest := []) C hE hWL hS (mX12_sameLabels (xs (x4 + (1 : Int32)).toNatClampNeg) τ q hq) cwX12_sameLabels cvX12_sameLabels rfl mlL_230 ⟨by decide, by decide⟩ rfl hl.1 (Nat.le_of_ble_eq_true rfl) ⟨hcs.1, hcs.2⟩ dL_law_1900 rfl (fun H locs hWL hS => ?_)
  refine lv_istore (lv' := [(6, .int q.1), (5, .int k), (0, .ref b0), (1, .ref (a + 0)), (2, .ref (b + 0)), (3, .ref o), (4, .int x4)]) hx0 hb dL_law_1903 hl (by decide) rfl (fun ls hl => ?_)
  refine lv_aload_n hx0 hb dL_law_1905 rfl (lv_at hl 4 rfl) ?_
  refine z_callM (As := []) (rest := []) C hE hWL hS (mX12_thrown q.2 (q.2 0 0) rfl) cwX12_thrown cvX12_thrown rfl mlL_132 ⟨by decide, by decide⟩ rfl hl.1 (Nat.le_of_ble_eq_true rfl) ⟨hcs.1, hcs.2⟩ dL_law_1906 rfl (fun H locs hWL hS => ?_)
  refine lv_iload hx0 hb dL_law_1909 (lv_at hl 1 rfl) ?_
  refine lv_icmp_eq (tgt := 1916) hx0 hb dL_law_1911 (by decide) (fun _ => ?_) (fun z => absurd ht z)
  refine lv_iload hx0 hb dL_law_1916 (lv_at hl 1 rfl) ?_
  refine lv_if_ne (tgt := 1933) hx0 hb dL_law_1918 (by decide) (fun _ => ?_) (fun z => ?_)
  · refine lv_goto (tgt := 2459) hx0 hb dL_law_1933 (by decide) ?_
    exact hend _ _ _ _ _ _ hrel hWL hS (lv_sub hl [2, 3, 4, 5, 6] rfl)
  obtain ⟨v9, e9⟩ : ∃ v, r.1 = .inr v := by
    rcases hk with ⟨v, e, _⟩ | ⟨_, e⟩
    · exact ⟨v, e⟩
    · rw [e] at z; exact absurd z (by decide)
  have e8 : ou r w = q.1.toInt64 := by unfold ou; rw [e9, hv v9 e9]
  refine lv_aload_n hx0 hb dL_law_1921 rfl (lv_at hl 5 rfl) ?_
  refine lv_iconst (v := (0 : Int32)) hx0 hb dL_law_1922 (by decide) ?_
  refine z_lald C hWL.2.2.1 dL_law_1923 ?_
  refine lv_iload hx0 hb dL_law_1924 (lv_at hl 0 rfl) ?_
  refine lv_i2l hx0 hb dL_law_1926 rfl ?_
  refine W.lcmp hx0 hb dL_law_1927 ?_
  rw [e8, lcmp0]
  refine lv_if_eq (tgt := 1933) hx0 hb dL_law_1928 (by decide) (fun _ => ?_) (fun z => absurd rfl z)
  refine lv_goto (tgt := 2459) hx0 hb dL_law_1933 (by decide) ?_
  exact hend _ _ _ _ _ _ hrel hWL hS (lv_sub hl [2, 3, 4, 5, 6] rfl)
def Sim30 (Rel : Mem → Mem → Prop) : Prop := ∀ (σ τ : Mem), Rel σ τ → ∃ (v : Int32) (τ' : Mem), fX11_openingCount 0 σ = some v ∧ fX12_openingCount τ = some (v, τ') ∧ Rel σ τ'
set_option maxRecDepth 100000 in
set_option maxHeartbeats 4000000 in
theorem lc_30 {p : Program} {l : Launch} {e : Env} {s : State} {m : MethodId} {args : Array Value} {below : List Frame} {meth : Method} {c : Code} {E : Ev} {a b o b0 N : Nat} {xs : Nat → Int32} {Q : State → Prop} {Rel : Mem → Mem → Prop} (S : Sim30 Rel) (C : Cx p l s m args meth c E cL_law 7 RL (some .boolean)) (hN : Nx s) (hE : E.2.1 = s.heap) (hX : va_X b0 N xs s s.heap) (hbl : b0 < s.heap.size) {x4 : Int32} (hin : ∀ j : Nat, j < 6 → vp_in (x4 + Int32.ofNat j) N) {σ τ : Mem} {w : Int64} {H : Heap} {locs : List Loc} {cells slots : Nat} {ls : Array Slot} (hcs : cells + 4 ≤ 601024 ∧ slots + 24 ≤ 7293034) (hrel : Rel σ τ) (hWL : WL E a b o σ τ w H) (hS : va_S (An s) s.heap H locs) (hl : lv_has ls 7 [(0, .ref b0), (1, .ref (a + 0)), (2, .ref (b + 0)), (3, .ref o), (4, .int x4)]) (hend : ∀ (σ τ : Mem) (w : Int64) (H : Heap) (locs : List Loc) (ls : Array Slot), Rel σ τ → WL E a b o σ τ w H → va_S (An s) s.heap H locs → lv_has ls 7 [(0, .ref b0), (1, .ref (a + 0)), (2, .ref (b + 0)), (3, .ref o), (4, .int x4)] → W p l e room_1 s m args below meth c H locs (cells + 4) (slots + 24) Q (F0 m 2459 ls [])) : W p l e room_1 s m args below meth c H locs cells slots Q (F0 m 1936 ls []) := by
  have hx0 := C.1
  have hb := C.2.1
  have hbA : ¬ An s b0 := Nat.not_le.mpr hbl
  obtain ⟨v, τ1, hr, hq, hrel⟩ := S σ τ  hrel
  refine lv_aload_n hx0 hb dL_law_1936 rfl (lv_at hl 1 rfl) ?_
  refine z_callX (As := []) (rest := []) C hE hWL hS (mX11_openingCount 0 kd0 σ v hr) cwX11_openingCount cvX11_openingCount rfl mlL_231 ⟨by decide, by decide⟩ rfl hl.1 (Nat.le_of_ble_eq_true rfl) ⟨by show cells ≤ 601024; omega, by show slots ≤ 7293034; omega⟩ dL_law_1937 rfl (fun H locs hWL hS => ?_)
  refine lv_aload_n hx0 hb dL_law_1940 rfl (lv_at hl 2 rfl) ?_
  refine z_callM (As := []) (rest := [.int v]) C hE hWL hS (mX12_openingCount  τ (v, τ1) hq) cwX12_openingCount cvX12_openingCount rfl mlL_234 ⟨by decide, by decide⟩ rfl hl.1 (Nat.le_of_ble_eq_true rfl) ⟨by show cells ≤ 601024; omega, by show slots ≤ 7293034; omega⟩ dL_law_1941 rfl (fun H locs hWL hS => ?_)
  refine lv_icmp_eq (tgt := 2459) hx0 hb dL_law_1944 (by decide) (fun _ => ?_) (fun z => absurd rfl z)
  refine W.widen (k := cells + 4) (n := slots + 24) (by omega) (by omega) ?_
  exact hend _ _ _ _ _ _ hrel hWL hS (lv_sub hl [0, 1, 2, 3, 4] rfl)
def Sim31 (Rel : Mem → Mem → Prop) : Prop := ∀ (σ τ : Mem) (x1 : Int32) (x2 : Int32), Rel σ τ → ∃ (r : Rx) (q : Int32 × Mem) (k : Int32), fX11_opening 0 x1 x2 σ = some r ∧ fX12_opening x1 x2 τ = some q ∧ ((∃ v, r.1 = .inr v ∧ k = 0) ∨ (r.1 = .inl 2 ∧ k = 1) ∨ (r.1 = .inl 1 ∧ k = 2)) ∧ (∀ v, r.1 = .inr v → q.1 = v) ∧ q.2 0 0 = k ∧ Rel r.2 q.2
set_option maxRecDepth 100000 in
set_option maxHeartbeats 4000000 in
theorem lc_31 {p : Program} {l : Launch} {e : Env} {s : State} {m : MethodId} {args : Array Value} {below : List Frame} {meth : Method} {c : Code} {E : Ev} {a b o b0 N : Nat} {xs : Nat → Int32} {Q : State → Prop} {Rel : Mem → Mem → Prop} (S : Sim31 Rel) (C : Cx p l s m args meth c E cL_law 7 RL (some .boolean)) (hN : Nx s) (hE : E.2.1 = s.heap) (hX : va_X b0 N xs s s.heap) (hbl : b0 < s.heap.size) {x4 : Int32} (hin : ∀ j : Nat, j < 6 → vp_in (x4 + Int32.ofNat j) N) {σ τ : Mem} {w : Int64} {H : Heap} {locs : List Loc} {cells slots : Nat} {ls : Array Slot} (hcs : cells + 4 ≤ 601024 ∧ slots + 24 ≤ 7293034) (hrel : Rel σ τ) (hWL : WL E a b o σ τ w H) (hS : va_S (An s) s.heap H locs) (hl : lv_has ls 7 [(0, .ref b0), (1, .ref (a + 0)), (2, .ref (b + 0)), (3, .ref o), (4, .int x4)]) (hend : ∀ (σ τ : Mem) (w : Int64) (H : Heap) (locs : List Loc) (ls : Array Slot), Rel σ τ → WL E a b o σ τ w H → va_S (An s) s.heap H locs → lv_has ls 7 [(0, .ref b0), (1, .ref (a + 0)), (2, .ref (b + 0)), (3, .ref o), (4, .int x4)] → W p l e room_1 s m args below meth c H locs (cells + 4) (slots + 24) Q (F0 m 2459 ls [])) : W p l e room_1 s m args below meth c H locs cells slots Q (F0 m 1949 ls []) := by
  have hx0 := C.1
  have hb := C.2.1
  have hbA : ¬ An s b0 := Nat.not_le.mpr hbl
  obtain ⟨r, q, k, hr, hq, hk, hv, ht, hrel⟩ := S σ τ (xs (x4 + (1 : Int32)).toNatClampNeg) (xs (x4 + (2 : Int32)).toNatClampNeg) hrel
  refine lv_aload_n hx0 hb dL_law_1949 rfl (lv_at hl 1 rfl) ?_
  refine lv_aload_n hx0 hb dL_law_1950 rfl (lv_at hl 0 rfl) ?_
  refine lv_iload hx0 hb dL_law_1951 (lv_at hl 4 rfl) ?_
  refine lv_iconst (v := (1 : Int32)) hx0 hb dL_law_1953 (by decide) ?_
  refine lv_iadd hx0 hb dL_law_1954 ?_
  refine va_sld hx0 hb hX hbl hbA hS (hin 1 (by decide)) dL_law_1955 ?_
  refine lv_aload_n hx0 hb dL_law_1956 rfl (lv_at hl 0 rfl) ?_
  refine lv_iload hx0 hb dL_law_1957 (lv_at hl 4 rfl) ?_
  refine lv_iconst (v := (2 : Int32)) hx0 hb dL_law_1959 (by decide) ?_
  refine lv_iadd hx0 hb dL_law_1960 ?_
  refine va_sld hx0 hb hX hbl hbA hS (hin 2 (by decide)) dL_law_1961 ?_
  refine lv_aload_n hx0 hb dL_law_1962 rfl (lv_at hl 3 rfl) ?_
  refine z_wrap (As := [.ref (a + 0), .int (xs (x4 + (1 : Int32)).toNatClampNeg), .int (xs (x4 + (2 : Int32)).toNatClampNeg), .ref o]) (rest := []) C hN hE hWL hS (mL_opening (xs (x4 + (1 : Int32)).toNatClampNeg) (xs (x4 + (2 : Int32)).toNatClampNeg) σ r hr w k hk) cwL_opening csL_opening mlL_235 ⟨by decide, by decide⟩ rfl hl.1 (Nat.le_of_ble_eq_true rfl) ⟨Nat.le_trans (Nat.add_le_add_left (show 2 ≤ 4 by decide) _) hcs.1, Nat.le_trans (Nat.add_le_add_left (show 12 ≤ 24 by decide) _) hcs.2⟩ dL_law_1963 rfl (fun H locs hWL hS => ?_)
  refine W.widen (k := cells + 4) (n := slots + 24) (Nat.add_le_add_left (by decide) _) (Nat.add_le_add_left (by decide) _) ?_
  refine lv_istore (lv' := [(5, .int k), (0, .ref b0), (1, .ref (a + 0)), (2, .ref (b + 0)), (3, .ref o), (4, .int x4)]) hx0 hb dL_law_1966 hl (by decide) rfl (fun ls hl => ?_)
  refine lv_aload_n hx0 hb dL_law_1968 rfl (lv_at hl 3 rfl) ?_
  refine lv_aload_n hx0 hb dL_law_1969 rfl (lv_at hl 1 rfl) ?_
  refine lv_iload hx0 hb dL_law_1970 (lv_at hl 5 rfl) ?_
  refine lv_iconst (v := (1 : Int32)) hx0 hb dL_law_1972 (by decide) ?_
  refine lv_iadd hx0 hb dL_law_1973 ?_
  refine va_sld hx0 hb hX hbl hbA hS (hin 1 (by decide)) dL_law_1974 ?_
  refine lv_aload_n hx0 hb dL_law_1975 rfl (lv_at hl 1 rfl) ?_
  refine lv_iload hx0 hb dL_law_1976 (lv_at hl 5 rfl) ?_
  refine lv_iconst (v := (2 : Int32)) hx0 hb dL_law_1978 (by decide) ?_
  refine lv_iadd hx0 hb dL_law_1979 ?_
  refine va_sld hx0 hb hX hbl hbA hS (hin 2 (by decide)) dL_law_1980 ?_
  refine z_callM (As := [.int (xs (x4 + (1 : Int32)).toNatClampNeg), .int (xs (x4 + (2 : Int32)).toNatClampNeg)]) (rest := []) C hE hWL hS (mX12_opening (xs (x4 + (1 : Int32)).toNatClampNeg) (xs (x4 + (2 : Int32)).toNatClampNeg) τ q hq) cwX12_opening cvX12_opening rfl mlL_237 ⟨by decide, by decide⟩ rfl hl.1 (Nat.le_of_ble_eq_true rfl) ⟨hcs.1, hcs.2⟩ dL_law_1981 rfl (fun H locs hWL hS => ?_)
  refine lv_istore (lv' := [(6, .int q.1), (5, .int k), (0, .ref b0), (1, .ref (a + 0)), (2, .ref (b + 0)), (3, .ref o), (4, .int x4)]) hx0 hb dL_law_1984 hl (by decide) rfl (fun ls hl => ?_)
  refine lv_aload_n hx0 hb dL_law_1986 rfl (lv_at hl 4 rfl) ?_
  refine z_callM (As := []) (rest := []) C hE hWL hS (mX12_thrown q.2 (q.2 0 0) rfl) cwX12_thrown cvX12_thrown rfl mlL_132 ⟨by decide, by decide⟩ rfl hl.1 (Nat.le_of_ble_eq_true rfl) ⟨hcs.1, hcs.2⟩ dL_law_1987 rfl (fun H locs hWL hS => ?_)
  refine lv_iload hx0 hb dL_law_1990 (lv_at hl 1 rfl) ?_
  refine lv_icmp_eq (tgt := 1997) hx0 hb dL_law_1992 (by decide) (fun _ => ?_) (fun z => absurd ht z)
  refine lv_iload hx0 hb dL_law_1997 (lv_at hl 1 rfl) ?_
  refine lv_if_ne (tgt := 2014) hx0 hb dL_law_1999 (by decide) (fun _ => ?_) (fun z => ?_)
  · refine lv_goto (tgt := 2459) hx0 hb dL_law_2014 (by decide) ?_
    exact hend _ _ _ _ _ _ hrel hWL hS (lv_sub hl [2, 3, 4, 5, 6] rfl)
  obtain ⟨v9, e9⟩ : ∃ v, r.1 = .inr v := by
    rcases hk with ⟨v, e, _⟩ | ⟨_, e⟩ | ⟨_, e⟩
    · exact ⟨v, e⟩
    · rw [e] at z; exact absurd z (by decide)
    · rw [e] at z; exact absurd z (by decide)
  have e8 : ou r w = q.1.toInt64 := by unfold ou; rw [e9, hv v9 e9]
  refine lv_aload_n hx0 hb dL_law_2002 rfl (lv_at hl 5 rfl) ?_
  refine lv_iconst (v := (0 : Int32)) hx0 hb dL_law_2003 (by decide) ?_
  refine z_lald C hWL.2.2.1 dL_law_2004 ?_
  refine lv_iload hx0 hb dL_law_2005 (lv_at hl 0 rfl) ?_
  refine lv_i2l hx0 hb dL_law_2007 rfl ?_
  refine W.lcmp hx0 hb dL_law_2008 ?_
  rw [e8, lcmp0]
  refine lv_if_eq (tgt := 2014) hx0 hb dL_law_2009 (by decide) (fun _ => ?_) (fun z => absurd rfl z)
  refine lv_goto (tgt := 2459) hx0 hb dL_law_2014 (by decide) ?_
  exact hend _ _ _ _ _ _ hrel hWL hS (lv_sub hl [2, 3, 4, 5, 6] rfl)
def Sim32 (Rel : Mem → Mem → Prop) : Prop := ∀ (σ τ : Mem), Rel σ τ → ∃ (v : Int32) (τ' : Mem), fX11_view 0 σ = some v ∧ fX12_view τ = some (v, τ') ∧ Rel σ τ'
set_option maxRecDepth 100000 in
set_option maxHeartbeats 4000000 in
theorem lc_32 {p : Program} {l : Launch} {e : Env} {s : State} {m : MethodId} {args : Array Value} {below : List Frame} {meth : Method} {c : Code} {E : Ev} {a b o b0 N : Nat} {xs : Nat → Int32} {Q : State → Prop} {Rel : Mem → Mem → Prop} (S : Sim32 Rel) (C : Cx p l s m args meth c E cL_law 7 RL (some .boolean)) (hN : Nx s) (hE : E.2.1 = s.heap) (hX : va_X b0 N xs s s.heap) (hbl : b0 < s.heap.size) {x4 : Int32} (hin : ∀ j : Nat, j < 6 → vp_in (x4 + Int32.ofNat j) N) {σ τ : Mem} {w : Int64} {H : Heap} {locs : List Loc} {cells slots : Nat} {ls : Array Slot} (hcs : cells + 4 ≤ 601024 ∧ slots + 24 ≤ 7293034) (hrel : Rel σ τ) (hWL : WL E a b o σ τ w H) (hS : va_S (An s) s.heap H locs) (hl : lv_has ls 7 [(0, .ref b0), (1, .ref (a + 0)), (2, .ref (b + 0)), (3, .ref o), (4, .int x4)]) (hend : ∀ (σ τ : Mem) (w : Int64) (H : Heap) (locs : List Loc) (ls : Array Slot), Rel σ τ → WL E a b o σ τ w H → va_S (An s) s.heap H locs → lv_has ls 7 [(0, .ref b0), (1, .ref (a + 0)), (2, .ref (b + 0)), (3, .ref o), (4, .int x4)] → W p l e room_1 s m args below meth c H locs (cells + 4) (slots + 24) Q (F0 m 2459 ls [])) : W p l e room_1 s m args below meth c H locs cells slots Q (F0 m 2017 ls []) := by
  have hx0 := C.1
  have hb := C.2.1
  have hbA : ¬ An s b0 := Nat.not_le.mpr hbl
  obtain ⟨v, τ1, hr, hq, hrel⟩ := S σ τ  hrel
  refine lv_aload_n hx0 hb dL_law_2017 rfl (lv_at hl 1 rfl) ?_
  refine z_callX (As := []) (rest := []) C hE hWL hS (mX11_view 0 kd0 σ v hr) cwX11_view cvX11_view rfl mlL_238 ⟨by decide, by decide⟩ rfl hl.1 (Nat.le_of_ble_eq_true rfl) ⟨by show cells ≤ 601024; omega, by show slots ≤ 7293034; omega⟩ dL_law_2018 rfl (fun H locs hWL hS => ?_)
  refine lv_aload_n hx0 hb dL_law_2021 rfl (lv_at hl 2 rfl) ?_
  refine z_callM (As := []) (rest := [.int v]) C hE hWL hS (mX12_view  τ (v, τ1) hq) cwX12_view cvX12_view rfl mlL_241 ⟨by decide, by decide⟩ rfl hl.1 (Nat.le_of_ble_eq_true rfl) ⟨by show cells ≤ 601024; omega, by show slots ≤ 7293034; omega⟩ dL_law_2022 rfl (fun H locs hWL hS => ?_)
  refine lv_icmp_eq (tgt := 2459) hx0 hb dL_law_2025 (by decide) (fun _ => ?_) (fun z => absurd rfl z)
  refine W.widen (k := cells + 4) (n := slots + 24) (by omega) (by omega) ?_
  exact hend _ _ _ _ _ _ hrel hWL hS (lv_sub hl [0, 1, 2, 3, 4] rfl)
def Sim33 (Rel : Mem → Mem → Prop) : Prop := ∀ (σ τ : Mem), Rel σ τ → ∃ (v : Int32) (τ' : Mem), fX11_trailLength 0 σ = some v ∧ fX12_trailLength τ = some (v, τ') ∧ Rel σ τ'
set_option maxRecDepth 100000 in
set_option maxHeartbeats 4000000 in
theorem lc_33 {p : Program} {l : Launch} {e : Env} {s : State} {m : MethodId} {args : Array Value} {below : List Frame} {meth : Method} {c : Code} {E : Ev} {a b o b0 N : Nat} {xs : Nat → Int32} {Q : State → Prop} {Rel : Mem → Mem → Prop} (S : Sim33 Rel) (C : Cx p l s m args meth c E cL_law 7 RL (some .boolean)) (hN : Nx s) (hE : E.2.1 = s.heap) (hX : va_X b0 N xs s s.heap) (hbl : b0 < s.heap.size) {x4 : Int32} (hin : ∀ j : Nat, j < 6 → vp_in (x4 + Int32.ofNat j) N) {σ τ : Mem} {w : Int64} {H : Heap} {locs : List Loc} {cells slots : Nat} {ls : Array Slot} (hcs : cells + 4 ≤ 601024 ∧ slots + 24 ≤ 7293034) (hrel : Rel σ τ) (hWL : WL E a b o σ τ w H) (hS : va_S (An s) s.heap H locs) (hl : lv_has ls 7 [(0, .ref b0), (1, .ref (a + 0)), (2, .ref (b + 0)), (3, .ref o), (4, .int x4)]) (hend : ∀ (σ τ : Mem) (w : Int64) (H : Heap) (locs : List Loc) (ls : Array Slot), Rel σ τ → WL E a b o σ τ w H → va_S (An s) s.heap H locs → lv_has ls 7 [(0, .ref b0), (1, .ref (a + 0)), (2, .ref (b + 0)), (3, .ref o), (4, .int x4)] → W p l e room_1 s m args below meth c H locs (cells + 4) (slots + 24) Q (F0 m 2459 ls [])) : W p l e room_1 s m args below meth c H locs cells slots Q (F0 m 2030 ls []) := by
  have hx0 := C.1
  have hb := C.2.1
  have hbA : ¬ An s b0 := Nat.not_le.mpr hbl
  obtain ⟨v, τ1, hr, hq, hrel⟩ := S σ τ  hrel
  refine lv_aload_n hx0 hb dL_law_2030 rfl (lv_at hl 1 rfl) ?_
  refine z_callX (As := []) (rest := []) C hE hWL hS (mX11_trailLength 0 kd0 σ v hr) cwX11_trailLength cvX11_trailLength rfl mlL_242 ⟨by decide, by decide⟩ rfl hl.1 (Nat.le_of_ble_eq_true rfl) ⟨by show cells ≤ 601024; omega, by show slots ≤ 7293034; omega⟩ dL_law_2031 rfl (fun H locs hWL hS => ?_)
  refine lv_aload_n hx0 hb dL_law_2034 rfl (lv_at hl 2 rfl) ?_
  refine z_callM (As := []) (rest := [.int v]) C hE hWL hS (mX12_trailLength  τ (v, τ1) hq) cwX12_trailLength cvX12_trailLength rfl mlL_245 ⟨by decide, by decide⟩ rfl hl.1 (Nat.le_of_ble_eq_true rfl) ⟨by show cells ≤ 601024; omega, by show slots ≤ 7293034; omega⟩ dL_law_2035 rfl (fun H locs hWL hS => ?_)
  refine lv_icmp_eq (tgt := 2459) hx0 hb dL_law_2038 (by decide) (fun _ => ?_) (fun z => absurd rfl z)
  refine W.widen (k := cells + 4) (n := slots + 24) (by omega) (by omega) ?_
  exact hend _ _ _ _ _ _ hrel hWL hS (lv_sub hl [0, 1, 2, 3, 4] rfl)
def Sim34 (Rel : Mem → Mem → Prop) : Prop := ∀ (σ τ : Mem), Rel σ τ → ∃ (v : Int32) (τ' : Mem), fX11_scanCount 0 σ = some v ∧ fX12_scanCount τ = some (v, τ') ∧ Rel σ τ'
set_option maxRecDepth 100000 in
set_option maxHeartbeats 4000000 in
theorem lc_34 {p : Program} {l : Launch} {e : Env} {s : State} {m : MethodId} {args : Array Value} {below : List Frame} {meth : Method} {c : Code} {E : Ev} {a b o b0 N : Nat} {xs : Nat → Int32} {Q : State → Prop} {Rel : Mem → Mem → Prop} (S : Sim34 Rel) (C : Cx p l s m args meth c E cL_law 7 RL (some .boolean)) (hN : Nx s) (hE : E.2.1 = s.heap) (hX : va_X b0 N xs s s.heap) (hbl : b0 < s.heap.size) {x4 : Int32} (hin : ∀ j : Nat, j < 6 → vp_in (x4 + Int32.ofNat j) N) {σ τ : Mem} {w : Int64} {H : Heap} {locs : List Loc} {cells slots : Nat} {ls : Array Slot} (hcs : cells + 4 ≤ 601024 ∧ slots + 24 ≤ 7293034) (hrel : Rel σ τ) (hWL : WL E a b o σ τ w H) (hS : va_S (An s) s.heap H locs) (hl : lv_has ls 7 [(0, .ref b0), (1, .ref (a + 0)), (2, .ref (b + 0)), (3, .ref o), (4, .int x4)]) (hend : ∀ (σ τ : Mem) (w : Int64) (H : Heap) (locs : List Loc) (ls : Array Slot), Rel σ τ → WL E a b o σ τ w H → va_S (An s) s.heap H locs → lv_has ls 7 [(0, .ref b0), (1, .ref (a + 0)), (2, .ref (b + 0)), (3, .ref o), (4, .int x4)] → W p l e room_1 s m args below meth c H locs (cells + 4) (slots + 24) Q (F0 m 2459 ls [])) : W p l e room_1 s m args below meth c H locs cells slots Q (F0 m 2043 ls []) := by
  have hx0 := C.1
  have hb := C.2.1
  have hbA : ¬ An s b0 := Nat.not_le.mpr hbl
  obtain ⟨v, τ1, hr, hq, hrel⟩ := S σ τ  hrel
  refine lv_aload_n hx0 hb dL_law_2043 rfl (lv_at hl 1 rfl) ?_
  refine z_callX (As := []) (rest := []) C hE hWL hS (mX11_scanCount 0 kd0 σ v hr) cwX11_scanCount cvX11_scanCount rfl mlL_246 ⟨by decide, by decide⟩ rfl hl.1 (Nat.le_of_ble_eq_true rfl) ⟨by show cells ≤ 601024; omega, by show slots ≤ 7293034; omega⟩ dL_law_2044 rfl (fun H locs hWL hS => ?_)
  refine lv_aload_n hx0 hb dL_law_2047 rfl (lv_at hl 2 rfl) ?_
  refine z_callM (As := []) (rest := [.int v]) C hE hWL hS (mX12_scanCount  τ (v, τ1) hq) cwX12_scanCount cvX12_scanCount rfl mlL_249 ⟨by decide, by decide⟩ rfl hl.1 (Nat.le_of_ble_eq_true rfl) ⟨by show cells ≤ 601024; omega, by show slots ≤ 7293034; omega⟩ dL_law_2048 rfl (fun H locs hWL hS => ?_)
  refine lv_icmp_eq (tgt := 2459) hx0 hb dL_law_2051 (by decide) (fun _ => ?_) (fun z => absurd rfl z)
  refine W.widen (k := cells + 4) (n := slots + 24) (by omega) (by omega) ?_
  exact hend _ _ _ _ _ _ hrel hWL hS (lv_sub hl [0, 1, 2, 3, 4] rfl)
def Sim35 (Rel : Mem → Mem → Prop) : Prop := ∀ (σ τ : Mem) (x1 : Int32) (x2 : Int32), Rel σ τ → ∃ (r : Rx) (q : Int32 × Mem) (k : Int32), fX11_scan 0 x1 x2 σ = some r ∧ fX12_scan x1 x2 τ = some q ∧ ((∃ v, r.1 = .inr v ∧ k = 0) ∨ (r.1 = .inl 2 ∧ k = 1) ∨ (r.1 = .inl 1 ∧ k = 2)) ∧ (∀ v, r.1 = .inr v → q.1 = v) ∧ q.2 0 0 = k ∧ Rel r.2 q.2
set_option maxRecDepth 100000 in
set_option maxHeartbeats 4000000 in
theorem lc_35 {p : Program} {l : Launch} {e : Env} {s : State} {m : MethodId} {args : Array Value} {below : List Frame} {meth : Method} {c : Code} {E : Ev} {a b o b0 N : Nat} {xs : Nat → Int32} {Q : State → Prop} {Rel : Mem → Mem → Prop} (S : Sim35 Rel) (C : Cx p l s m args meth c E cL_law 7 RL (some .boolean)) (hN : Nx s) (hE : E.2.1 = s.heap) (hX : va_X b0 N xs s s.heap) (hbl : b0 < s.heap.size) {x4 : Int32} (hin : ∀ j : Nat, j < 6 → vp_in (x4 + Int32.ofNat j) N) {σ τ : Mem} {w : Int64} {H : Heap} {locs : List Loc} {cells slots : Nat} {ls : Array Slot} (hcs : cells + 4 ≤ 601024 ∧ slots + 24 ≤ 7293034) (hrel : Rel σ τ) (hWL : WL E a b o σ τ w H) (hS : va_S (An s) s.heap H locs) (hl : lv_has ls 7 [(0, .ref b0), (1, .ref (a + 0)), (2, .ref (b + 0)), (3, .ref o), (4, .int x4)]) (hend : ∀ (σ τ : Mem) (w : Int64) (H : Heap) (locs : List Loc) (ls : Array Slot), Rel σ τ → WL E a b o σ τ w H → va_S (An s) s.heap H locs → lv_has ls 7 [(0, .ref b0), (1, .ref (a + 0)), (2, .ref (b + 0)), (3, .ref o), (4, .int x4)] → W p l e room_1 s m args below meth c H locs (cells + 4) (slots + 24) Q (F0 m 2459 ls [])) : W p l e room_1 s m args below meth c H locs cells slots Q (F0 m 2056 ls []) := by
  have hx0 := C.1
  have hb := C.2.1
  have hbA : ¬ An s b0 := Nat.not_le.mpr hbl
  obtain ⟨r, q, k, hr, hq, hk, hv, ht, hrel⟩ := S σ τ (xs (x4 + (1 : Int32)).toNatClampNeg) (xs (x4 + (2 : Int32)).toNatClampNeg) hrel
  refine lv_aload_n hx0 hb dL_law_2056 rfl (lv_at hl 1 rfl) ?_
  refine lv_aload_n hx0 hb dL_law_2057 rfl (lv_at hl 0 rfl) ?_
  refine lv_iload hx0 hb dL_law_2058 (lv_at hl 4 rfl) ?_
  refine lv_iconst (v := (1 : Int32)) hx0 hb dL_law_2060 (by decide) ?_
  refine lv_iadd hx0 hb dL_law_2061 ?_
  refine va_sld hx0 hb hX hbl hbA hS (hin 1 (by decide)) dL_law_2062 ?_
  refine lv_aload_n hx0 hb dL_law_2063 rfl (lv_at hl 0 rfl) ?_
  refine lv_iload hx0 hb dL_law_2064 (lv_at hl 4 rfl) ?_
  refine lv_iconst (v := (2 : Int32)) hx0 hb dL_law_2066 (by decide) ?_
  refine lv_iadd hx0 hb dL_law_2067 ?_
  refine va_sld hx0 hb hX hbl hbA hS (hin 2 (by decide)) dL_law_2068 ?_
  refine lv_aload_n hx0 hb dL_law_2069 rfl (lv_at hl 3 rfl) ?_
  refine z_wrap (As := [.ref (a + 0), .int (xs (x4 + (1 : Int32)).toNatClampNeg), .int (xs (x4 + (2 : Int32)).toNatClampNeg), .ref o]) (rest := []) C hN hE hWL hS (mL_scan (xs (x4 + (1 : Int32)).toNatClampNeg) (xs (x4 + (2 : Int32)).toNatClampNeg) σ r hr w k hk) cwL_scan csL_scan mlL_250 ⟨by decide, by decide⟩ rfl hl.1 (Nat.le_of_ble_eq_true rfl) ⟨Nat.le_trans (Nat.add_le_add_left (show 2 ≤ 4 by decide) _) hcs.1, Nat.le_trans (Nat.add_le_add_left (show 12 ≤ 24 by decide) _) hcs.2⟩ dL_law_2070 rfl (fun H locs hWL hS => ?_)
  refine W.widen (k := cells + 4) (n := slots + 24) (Nat.add_le_add_left (by decide) _) (Nat.add_le_add_left (by decide) _) ?_
  refine lv_istore (lv' := [(5, .int k), (0, .ref b0), (1, .ref (a + 0)), (2, .ref (b + 0)), (3, .ref o), (4, .int x4)]) hx0 hb dL_law_2073 hl (by decide) rfl (fun ls hl => ?_)
  refine lv_aload_n hx0 hb dL_law_2075 rfl (lv_at hl 3 rfl) ?_
  refine lv_aload_n hx0 hb dL_law_2076 rfl (lv_at hl 1 rfl) ?_
  refine lv_iload hx0 hb dL_law_2077 (lv_at hl 5 rfl) ?_
  refine lv_iconst (v := (1 : Int32)) hx0 hb dL_law_2079 (by decide) ?_
  refine lv_iadd hx0 hb dL_law_2080 ?_
  refine va_sld hx0 hb hX hbl hbA hS (hin 1 (by decide)) dL_law_2081 ?_
  refine lv_aload_n hx0 hb dL_law_2082 rfl (lv_at hl 1 rfl) ?_
  refine lv_iload hx0 hb dL_law_2083 (lv_at hl 5 rfl) ?_
  refine lv_iconst (v := (2 : Int32)) hx0 hb dL_law_2085 (by decide) ?_
  refine lv_iadd hx0 hb dL_law_2086 ?_
  refine va_sld hx0 hb hX hbl hbA hS (hin 2 (by decide)) dL_law_2087 ?_
  refine z_callM (As := [.int (xs (x4 + (1 : Int32)).toNatClampNeg), .int (xs (x4 + (2 : Int32)).toNatClampNeg)]) (rest := []) C hE hWL hS (mX12_scan (xs (x4 + (1 : Int32)).toNatClampNeg) (xs (x4 + (2 : Int32)).toNatClampNeg) τ q hq) cwX12_scan cvX12_scan rfl mlL_252 ⟨by decide, by decide⟩ rfl hl.1 (Nat.le_of_ble_eq_true rfl) ⟨hcs.1, hcs.2⟩ dL_law_2088 rfl (fun H locs hWL hS => ?_)
  refine lv_istore (lv' := [(6, .int q.1), (5, .int k), (0, .ref b0), (1, .ref (a + 0)), (2, .ref (b + 0)), (3, .ref o), (4, .int x4)]) hx0 hb dL_law_2091 hl (by decide) rfl (fun ls hl => ?_)
  refine lv_aload_n hx0 hb dL_law_2093 rfl (lv_at hl 4 rfl) ?_
  refine z_callM (As := []) (rest := []) C hE hWL hS (mX12_thrown q.2 (q.2 0 0) rfl) cwX12_thrown cvX12_thrown rfl mlL_132 ⟨by decide, by decide⟩ rfl hl.1 (Nat.le_of_ble_eq_true rfl) ⟨hcs.1, hcs.2⟩ dL_law_2094 rfl (fun H locs hWL hS => ?_)
  refine lv_iload hx0 hb dL_law_2097 (lv_at hl 1 rfl) ?_
  refine lv_icmp_eq (tgt := 2104) hx0 hb dL_law_2099 (by decide) (fun _ => ?_) (fun z => absurd ht z)
  refine lv_iload hx0 hb dL_law_2104 (lv_at hl 1 rfl) ?_
  refine lv_if_ne (tgt := 2121) hx0 hb dL_law_2106 (by decide) (fun _ => ?_) (fun z => ?_)
  · refine lv_goto (tgt := 2459) hx0 hb dL_law_2121 (by decide) ?_
    exact hend _ _ _ _ _ _ hrel hWL hS (lv_sub hl [2, 3, 4, 5, 6] rfl)
  obtain ⟨v9, e9⟩ : ∃ v, r.1 = .inr v := by
    rcases hk with ⟨v, e, _⟩ | ⟨_, e⟩ | ⟨_, e⟩
    · exact ⟨v, e⟩
    · rw [e] at z; exact absurd z (by decide)
    · rw [e] at z; exact absurd z (by decide)
  have e8 : ou r w = q.1.toInt64 := by unfold ou; rw [e9, hv v9 e9]
  refine lv_aload_n hx0 hb dL_law_2109 rfl (lv_at hl 5 rfl) ?_
  refine lv_iconst (v := (0 : Int32)) hx0 hb dL_law_2110 (by decide) ?_
  refine z_lald C hWL.2.2.1 dL_law_2111 ?_
  refine lv_iload hx0 hb dL_law_2112 (lv_at hl 0 rfl) ?_
  refine lv_i2l hx0 hb dL_law_2114 rfl ?_
  refine W.lcmp hx0 hb dL_law_2115 ?_
  rw [e8, lcmp0]
  refine lv_if_eq (tgt := 2121) hx0 hb dL_law_2116 (by decide) (fun _ => ?_) (fun z => absurd rfl z)
  refine lv_goto (tgt := 2459) hx0 hb dL_law_2121 (by decide) ?_
  exact hend _ _ _ _ _ _ hrel hWL hS (lv_sub hl [2, 3, 4, 5, 6] rfl)
def Sim36 (Rel : Mem → Mem → Prop) : Prop := ∀ (σ τ : Mem) (x1 : Int32), Rel σ τ → ∃ (r : Rx) (q : Int32 × Mem) (k : Int32), fX11_showing 0 x1 σ = some r ∧ fX12_showing x1 τ = some q ∧ ((∃ v, r.1 = .inr v ∧ k = 0) ∨ (r.1 = .inl 2 ∧ k = 1)) ∧ (∀ v, r.1 = .inr v → q.1 = v) ∧ q.2 0 0 = k ∧ Rel r.2 q.2
set_option maxRecDepth 100000 in
set_option maxHeartbeats 4000000 in
theorem lc_36 {p : Program} {l : Launch} {e : Env} {s : State} {m : MethodId} {args : Array Value} {below : List Frame} {meth : Method} {c : Code} {E : Ev} {a b o b0 N : Nat} {xs : Nat → Int32} {Q : State → Prop} {Rel : Mem → Mem → Prop} (S : Sim36 Rel) (C : Cx p l s m args meth c E cL_law 7 RL (some .boolean)) (hN : Nx s) (hE : E.2.1 = s.heap) (hX : va_X b0 N xs s s.heap) (hbl : b0 < s.heap.size) {x4 : Int32} (hin : ∀ j : Nat, j < 6 → vp_in (x4 + Int32.ofNat j) N) {σ τ : Mem} {w : Int64} {H : Heap} {locs : List Loc} {cells slots : Nat} {ls : Array Slot} (hcs : cells + 4 ≤ 601024 ∧ slots + 24 ≤ 7293034) (hrel : Rel σ τ) (hWL : WL E a b o σ τ w H) (hS : va_S (An s) s.heap H locs) (hl : lv_has ls 7 [(0, .ref b0), (1, .ref (a + 0)), (2, .ref (b + 0)), (3, .ref o), (4, .int x4)]) (hend : ∀ (σ τ : Mem) (w : Int64) (H : Heap) (locs : List Loc) (ls : Array Slot), Rel σ τ → WL E a b o σ τ w H → va_S (An s) s.heap H locs → lv_has ls 7 [(0, .ref b0), (1, .ref (a + 0)), (2, .ref (b + 0)), (3, .ref o), (4, .int x4)] → W p l e room_1 s m args below meth c H locs (cells + 4) (slots + 24) Q (F0 m 2459 ls [])) : W p l e room_1 s m args below meth c H locs cells slots Q (F0 m 2124 ls []) := by
  have hx0 := C.1
  have hb := C.2.1
  have hbA : ¬ An s b0 := Nat.not_le.mpr hbl
  obtain ⟨r, q, k, hr, hq, hk, hv, ht, hrel⟩ := S σ τ (xs (x4 + (1 : Int32)).toNatClampNeg) hrel
  refine lv_aload_n hx0 hb dL_law_2124 rfl (lv_at hl 1 rfl) ?_
  refine lv_aload_n hx0 hb dL_law_2125 rfl (lv_at hl 0 rfl) ?_
  refine lv_iload hx0 hb dL_law_2126 (lv_at hl 4 rfl) ?_
  refine lv_iconst (v := (1 : Int32)) hx0 hb dL_law_2128 (by decide) ?_
  refine lv_iadd hx0 hb dL_law_2129 ?_
  refine va_sld hx0 hb hX hbl hbA hS (hin 1 (by decide)) dL_law_2130 ?_
  refine lv_aload_n hx0 hb dL_law_2131 rfl (lv_at hl 3 rfl) ?_
  refine z_wrap (As := [.ref (a + 0), .int (xs (x4 + (1 : Int32)).toNatClampNeg), .ref o]) (rest := []) C hN hE hWL hS (mL_showing (xs (x4 + (1 : Int32)).toNatClampNeg) σ r hr w k hk) cwL_showing csL_showing mlL_253 ⟨by decide, by decide⟩ rfl hl.1 (Nat.le_of_ble_eq_true rfl) ⟨Nat.le_trans (Nat.add_le_add_left (show 1 ≤ 4 by decide) _) hcs.1, Nat.le_trans (Nat.add_le_add_left (show 6 ≤ 24 by decide) _) hcs.2⟩ dL_law_2132 rfl (fun H locs hWL hS => ?_)
  refine W.widen (k := cells + 4) (n := slots + 24) (Nat.add_le_add_left (by decide) _) (Nat.add_le_add_left (by decide) _) ?_
  refine lv_istore (lv' := [(5, .int k), (0, .ref b0), (1, .ref (a + 0)), (2, .ref (b + 0)), (3, .ref o), (4, .int x4)]) hx0 hb dL_law_2135 hl (by decide) rfl (fun ls hl => ?_)
  refine lv_aload_n hx0 hb dL_law_2137 rfl (lv_at hl 3 rfl) ?_
  refine lv_aload_n hx0 hb dL_law_2138 rfl (lv_at hl 1 rfl) ?_
  refine lv_iload hx0 hb dL_law_2139 (lv_at hl 5 rfl) ?_
  refine lv_iconst (v := (1 : Int32)) hx0 hb dL_law_2141 (by decide) ?_
  refine lv_iadd hx0 hb dL_law_2142 ?_
  refine va_sld hx0 hb hX hbl hbA hS (hin 1 (by decide)) dL_law_2143 ?_
  refine z_callM (As := [.int (xs (x4 + (1 : Int32)).toNatClampNeg)]) (rest := []) C hE hWL hS (mX12_showing (xs (x4 + (1 : Int32)).toNatClampNeg) τ q hq) cwX12_showing cvX12_showing rfl mlL_255 ⟨by decide, by decide⟩ rfl hl.1 (Nat.le_of_ble_eq_true rfl) ⟨hcs.1, hcs.2⟩ dL_law_2144 rfl (fun H locs hWL hS => ?_)
  refine lv_istore (lv' := [(6, .int q.1), (5, .int k), (0, .ref b0), (1, .ref (a + 0)), (2, .ref (b + 0)), (3, .ref o), (4, .int x4)]) hx0 hb dL_law_2147 hl (by decide) rfl (fun ls hl => ?_)
  refine lv_aload_n hx0 hb dL_law_2149 rfl (lv_at hl 4 rfl) ?_
  refine z_callM (As := []) (rest := []) C hE hWL hS (mX12_thrown q.2 (q.2 0 0) rfl) cwX12_thrown cvX12_thrown rfl mlL_132 ⟨by decide, by decide⟩ rfl hl.1 (Nat.le_of_ble_eq_true rfl) ⟨hcs.1, hcs.2⟩ dL_law_2150 rfl (fun H locs hWL hS => ?_)
  refine lv_iload hx0 hb dL_law_2153 (lv_at hl 1 rfl) ?_
  refine lv_icmp_eq (tgt := 2160) hx0 hb dL_law_2155 (by decide) (fun _ => ?_) (fun z => absurd ht z)
  refine lv_iload hx0 hb dL_law_2160 (lv_at hl 1 rfl) ?_
  refine lv_if_ne (tgt := 2177) hx0 hb dL_law_2162 (by decide) (fun _ => ?_) (fun z => ?_)
  · refine lv_goto (tgt := 2459) hx0 hb dL_law_2177 (by decide) ?_
    exact hend _ _ _ _ _ _ hrel hWL hS (lv_sub hl [2, 3, 4, 5, 6] rfl)
  obtain ⟨v9, e9⟩ : ∃ v, r.1 = .inr v := by
    rcases hk with ⟨v, e, _⟩ | ⟨_, e⟩
    · exact ⟨v, e⟩
    · rw [e] at z; exact absurd z (by decide)
  have e8 : ou r w = q.1.toInt64 := by unfold ou; rw [e9, hv v9 e9]
  refine lv_aload_n hx0 hb dL_law_2165 rfl (lv_at hl 5 rfl) ?_
  refine lv_iconst (v := (0 : Int32)) hx0 hb dL_law_2166 (by decide) ?_
  refine z_lald C hWL.2.2.1 dL_law_2167 ?_
  refine lv_iload hx0 hb dL_law_2168 (lv_at hl 0 rfl) ?_
  refine lv_i2l hx0 hb dL_law_2170 rfl ?_
  refine W.lcmp hx0 hb dL_law_2171 ?_
  rw [e8, lcmp0]
  refine lv_if_eq (tgt := 2177) hx0 hb dL_law_2172 (by decide) (fun _ => ?_) (fun z => absurd rfl z)
  refine lv_goto (tgt := 2459) hx0 hb dL_law_2177 (by decide) ?_
  exact hend _ _ _ _ _ _ hrel hWL hS (lv_sub hl [2, 3, 4, 5, 6] rfl)
def Sim37 (Rel : Mem → Mem → Prop) : Prop := ∀ (σ τ : Mem), Rel σ τ → ∃ (v : Int32) (σ' τ' : Mem), fX11_uncovered 0 σ = some (v, σ') ∧ fX12_uncovered τ = some (v, τ') ∧ Rel σ' τ'
set_option maxRecDepth 100000 in
set_option maxHeartbeats 4000000 in
theorem lc_37 {p : Program} {l : Launch} {e : Env} {s : State} {m : MethodId} {args : Array Value} {below : List Frame} {meth : Method} {c : Code} {E : Ev} {a b o b0 N : Nat} {xs : Nat → Int32} {Q : State → Prop} {Rel : Mem → Mem → Prop} (S : Sim37 Rel) (C : Cx p l s m args meth c E cL_law 7 RL (some .boolean)) (hN : Nx s) (hE : E.2.1 = s.heap) (hX : va_X b0 N xs s s.heap) (hbl : b0 < s.heap.size) {x4 : Int32} (hin : ∀ j : Nat, j < 6 → vp_in (x4 + Int32.ofNat j) N) {σ τ : Mem} {w : Int64} {H : Heap} {locs : List Loc} {cells slots : Nat} {ls : Array Slot} (hcs : cells + 4 ≤ 601024 ∧ slots + 24 ≤ 7293034) (hrel : Rel σ τ) (hWL : WL E a b o σ τ w H) (hS : va_S (An s) s.heap H locs) (hl : lv_has ls 7 [(0, .ref b0), (1, .ref (a + 0)), (2, .ref (b + 0)), (3, .ref o), (4, .int x4)]) (hend : ∀ (σ τ : Mem) (w : Int64) (H : Heap) (locs : List Loc) (ls : Array Slot), Rel σ τ → WL E a b o σ τ w H → va_S (An s) s.heap H locs → lv_has ls 7 [(0, .ref b0), (1, .ref (a + 0)), (2, .ref (b + 0)), (3, .ref o), (4, .int x4)] → W p l e room_1 s m args below meth c H locs (cells + 4) (slots + 24) Q (F0 m 2459 ls [])) : W p l e room_1 s m args below meth c H locs cells slots Q (F0 m 2180 ls []) := by
  have hx0 := C.1
  have hb := C.2.1
  have hbA : ¬ An s b0 := Nat.not_le.mpr hbl
  obtain ⟨v, σ1, τ1, hr, hq, hrel⟩ := S σ τ  hrel
  refine lv_aload_n hx0 hb dL_law_2180 rfl (lv_at hl 1 rfl) ?_
  refine z_callX (As := []) (rest := []) C hE hWL hS (mX11_uncovered 0 kd0 σ (v, σ1) hr) cwX11_uncovered cvX11_uncovered rfl mlL_256 ⟨by decide, by decide⟩ rfl hl.1 (Nat.le_of_ble_eq_true rfl) ⟨by show cells ≤ 601024; omega, by show slots ≤ 7293034; omega⟩ dL_law_2181 rfl (fun H locs hWL hS => ?_)
  refine lv_aload_n hx0 hb dL_law_2184 rfl (lv_at hl 2 rfl) ?_
  refine z_callM (As := []) (rest := [.int v]) C hE hWL hS (mX12_uncovered  τ (v, τ1) hq) cwX12_uncovered cvX12_uncovered rfl mlL_259 ⟨by decide, by decide⟩ rfl hl.1 (Nat.le_of_ble_eq_true rfl) ⟨by show cells ≤ 601024; omega, by show slots ≤ 7293034; omega⟩ dL_law_2185 rfl (fun H locs hWL hS => ?_)
  refine lv_icmp_eq (tgt := 2459) hx0 hb dL_law_2188 (by decide) (fun _ => ?_) (fun z => absurd rfl z)
  refine W.widen (k := cells + 4) (n := slots + 24) (by omega) (by omega) ?_
  exact hend _ _ _ _ _ _ hrel hWL hS (lv_sub hl [0, 1, 2, 3, 4] rfl)
def Sim38 (Rel : Mem → Mem → Prop) : Prop := ∀ (σ τ : Mem) (x1 : Int32), Rel σ τ → ∃ (r : Rx) (q : Int32 × Mem) (k : Int32), fX11_nextUncovered 0 x1 σ = some r ∧ fX12_nextUncovered x1 τ = some q ∧ ((∃ v, r.1 = .inr v ∧ k = 0) ∨ (r.1 = .inl 1 ∧ k = 1)) ∧ (∀ v, r.1 = .inr v → q.1 = v) ∧ q.2 0 0 = k ∧ Rel r.2 q.2
set_option maxRecDepth 100000 in
set_option maxHeartbeats 4000000 in
theorem lc_38 {p : Program} {l : Launch} {e : Env} {s : State} {m : MethodId} {args : Array Value} {below : List Frame} {meth : Method} {c : Code} {E : Ev} {a b o b0 N : Nat} {xs : Nat → Int32} {Q : State → Prop} {Rel : Mem → Mem → Prop} (S : Sim38 Rel) (C : Cx p l s m args meth c E cL_law 7 RL (some .boolean)) (hN : Nx s) (hE : E.2.1 = s.heap) (hX : va_X b0 N xs s s.heap) (hbl : b0 < s.heap.size) {x4 : Int32} (hin : ∀ j : Nat, j < 6 → vp_in (x4 + Int32.ofNat j) N) {σ τ : Mem} {w : Int64} {H : Heap} {locs : List Loc} {cells slots : Nat} {ls : Array Slot} (hcs : cells + 4 ≤ 601024 ∧ slots + 24 ≤ 7293034) (hrel : Rel σ τ) (hWL : WL E a b o σ τ w H) (hS : va_S (An s) s.heap H locs) (hl : lv_has ls 7 [(0, .ref b0), (1, .ref (a + 0)), (2, .ref (b + 0)), (3, .ref o), (4, .int x4)]) (hend : ∀ (σ τ : Mem) (w : Int64) (H : Heap) (locs : List Loc) (ls : Array Slot), Rel σ τ → WL E a b o σ τ w H → va_S (An s) s.heap H locs → lv_has ls 7 [(0, .ref b0), (1, .ref (a + 0)), (2, .ref (b + 0)), (3, .ref o), (4, .int x4)] → W p l e room_1 s m args below meth c H locs (cells + 4) (slots + 24) Q (F0 m 2459 ls [])) : W p l e room_1 s m args below meth c H locs cells slots Q (F0 m 2193 ls []) := by
  have hx0 := C.1
  have hb := C.2.1
  have hbA : ¬ An s b0 := Nat.not_le.mpr hbl
  obtain ⟨r, q, k, hr, hq, hk, hv, ht, hrel⟩ := S σ τ (xs (x4 + (1 : Int32)).toNatClampNeg) hrel
  refine lv_aload_n hx0 hb dL_law_2193 rfl (lv_at hl 1 rfl) ?_
  refine lv_aload_n hx0 hb dL_law_2194 rfl (lv_at hl 0 rfl) ?_
  refine lv_iload hx0 hb dL_law_2195 (lv_at hl 4 rfl) ?_
  refine lv_iconst (v := (1 : Int32)) hx0 hb dL_law_2197 (by decide) ?_
  refine lv_iadd hx0 hb dL_law_2198 ?_
  refine va_sld hx0 hb hX hbl hbA hS (hin 1 (by decide)) dL_law_2199 ?_
  refine lv_aload_n hx0 hb dL_law_2200 rfl (lv_at hl 3 rfl) ?_
  refine z_wrap (As := [.ref (a + 0), .int (xs (x4 + (1 : Int32)).toNatClampNeg), .ref o]) (rest := []) C hN hE hWL hS (mL_nextUncovered (xs (x4 + (1 : Int32)).toNatClampNeg) σ r hr w k hk) cwL_nextUncovered csL_nextUncovered mlL_260 ⟨by decide, by decide⟩ rfl hl.1 (Nat.le_of_ble_eq_true rfl) ⟨Nat.le_trans (Nat.add_le_add_left (show 1 ≤ 4 by decide) _) hcs.1, Nat.le_trans (Nat.add_le_add_left (show 6 ≤ 24 by decide) _) hcs.2⟩ dL_law_2201 rfl (fun H locs hWL hS => ?_)
  refine W.widen (k := cells + 4) (n := slots + 24) (Nat.add_le_add_left (by decide) _) (Nat.add_le_add_left (by decide) _) ?_
  refine lv_istore (lv' := [(5, .int k), (0, .ref b0), (1, .ref (a + 0)), (2, .ref (b + 0)), (3, .ref o), (4, .int x4)]) hx0 hb dL_law_2204 hl (by decide) rfl (fun ls hl => ?_)
  refine lv_aload_n hx0 hb dL_law_2206 rfl (lv_at hl 3 rfl) ?_
  refine lv_aload_n hx0 hb dL_law_2207 rfl (lv_at hl 1 rfl) ?_
  refine lv_iload hx0 hb dL_law_2208 (lv_at hl 5 rfl) ?_
  refine lv_iconst (v := (1 : Int32)) hx0 hb dL_law_2210 (by decide) ?_
  refine lv_iadd hx0 hb dL_law_2211 ?_
  refine va_sld hx0 hb hX hbl hbA hS (hin 1 (by decide)) dL_law_2212 ?_
  refine z_callM (As := [.int (xs (x4 + (1 : Int32)).toNatClampNeg)]) (rest := []) C hE hWL hS (mX12_nextUncovered (xs (x4 + (1 : Int32)).toNatClampNeg) τ q hq) cwX12_nextUncovered cvX12_nextUncovered rfl mlL_262 ⟨by decide, by decide⟩ rfl hl.1 (Nat.le_of_ble_eq_true rfl) ⟨hcs.1, hcs.2⟩ dL_law_2213 rfl (fun H locs hWL hS => ?_)
  refine lv_istore (lv' := [(6, .int q.1), (5, .int k), (0, .ref b0), (1, .ref (a + 0)), (2, .ref (b + 0)), (3, .ref o), (4, .int x4)]) hx0 hb dL_law_2216 hl (by decide) rfl (fun ls hl => ?_)
  refine lv_aload_n hx0 hb dL_law_2218 rfl (lv_at hl 4 rfl) ?_
  refine z_callM (As := []) (rest := []) C hE hWL hS (mX12_thrown q.2 (q.2 0 0) rfl) cwX12_thrown cvX12_thrown rfl mlL_132 ⟨by decide, by decide⟩ rfl hl.1 (Nat.le_of_ble_eq_true rfl) ⟨hcs.1, hcs.2⟩ dL_law_2219 rfl (fun H locs hWL hS => ?_)
  refine lv_iload hx0 hb dL_law_2222 (lv_at hl 1 rfl) ?_
  refine lv_icmp_eq (tgt := 2229) hx0 hb dL_law_2224 (by decide) (fun _ => ?_) (fun z => absurd ht z)
  refine lv_iload hx0 hb dL_law_2229 (lv_at hl 1 rfl) ?_
  refine lv_if_ne (tgt := 2246) hx0 hb dL_law_2231 (by decide) (fun _ => ?_) (fun z => ?_)
  · refine lv_goto (tgt := 2459) hx0 hb dL_law_2246 (by decide) ?_
    exact hend _ _ _ _ _ _ hrel hWL hS (lv_sub hl [2, 3, 4, 5, 6] rfl)
  obtain ⟨v9, e9⟩ : ∃ v, r.1 = .inr v := by
    rcases hk with ⟨v, e, _⟩ | ⟨_, e⟩
    · exact ⟨v, e⟩
    · rw [e] at z; exact absurd z (by decide)
  have e8 : ou r w = q.1.toInt64 := by unfold ou; rw [e9, hv v9 e9]
  refine lv_aload_n hx0 hb dL_law_2234 rfl (lv_at hl 5 rfl) ?_
  refine lv_iconst (v := (0 : Int32)) hx0 hb dL_law_2235 (by decide) ?_
  refine z_lald C hWL.2.2.1 dL_law_2236 ?_
  refine lv_iload hx0 hb dL_law_2237 (lv_at hl 0 rfl) ?_
  refine lv_i2l hx0 hb dL_law_2239 rfl ?_
  refine W.lcmp hx0 hb dL_law_2240 ?_
  rw [e8, lcmp0]
  refine lv_if_eq (tgt := 2246) hx0 hb dL_law_2241 (by decide) (fun _ => ?_) (fun z => absurd rfl z)
  refine lv_goto (tgt := 2459) hx0 hb dL_law_2246 (by decide) ?_
  exact hend _ _ _ _ _ _ hrel hWL hS (lv_sub hl [2, 3, 4, 5, 6] rfl)
def Sim39 (Rel : Mem → Mem → Prop) : Prop := ∀ (σ τ : Mem), Rel σ τ → ∃ (v : Int32) (σ' τ' : Mem), fX11_needless 0 σ = some (v, σ') ∧ fX12_needless τ = some (v, τ') ∧ Rel σ' τ'
set_option maxRecDepth 100000 in
set_option maxHeartbeats 4000000 in
theorem lc_39 {p : Program} {l : Launch} {e : Env} {s : State} {m : MethodId} {args : Array Value} {below : List Frame} {meth : Method} {c : Code} {E : Ev} {a b o b0 N : Nat} {xs : Nat → Int32} {Q : State → Prop} {Rel : Mem → Mem → Prop} (S : Sim39 Rel) (C : Cx p l s m args meth c E cL_law 7 RL (some .boolean)) (hN : Nx s) (hE : E.2.1 = s.heap) (hX : va_X b0 N xs s s.heap) (hbl : b0 < s.heap.size) {x4 : Int32} (hin : ∀ j : Nat, j < 6 → vp_in (x4 + Int32.ofNat j) N) {σ τ : Mem} {w : Int64} {H : Heap} {locs : List Loc} {cells slots : Nat} {ls : Array Slot} (hcs : cells + 4 ≤ 601024 ∧ slots + 24 ≤ 7293034) (hrel : Rel σ τ) (hWL : WL E a b o σ τ w H) (hS : va_S (An s) s.heap H locs) (hl : lv_has ls 7 [(0, .ref b0), (1, .ref (a + 0)), (2, .ref (b + 0)), (3, .ref o), (4, .int x4)]) (hend : ∀ (σ τ : Mem) (w : Int64) (H : Heap) (locs : List Loc) (ls : Array Slot), Rel σ τ → WL E a b o σ τ w H → va_S (An s) s.heap H locs → lv_has ls 7 [(0, .ref b0), (1, .ref (a + 0)), (2, .ref (b + 0)), (3, .ref o), (4, .int x4)] → W p l e room_1 s m args below meth c H locs (cells + 4) (slots + 24) Q (F0 m 2459 ls [])) : W p l e room_1 s m args below meth c H locs cells slots Q (F0 m 2249 ls []) := by
  have hx0 := C.1
  have hb := C.2.1
  have hbA : ¬ An s b0 := Nat.not_le.mpr hbl
  obtain ⟨v, σ1, τ1, hr, hq, hrel⟩ := S σ τ  hrel
  refine lv_aload_n hx0 hb dL_law_2249 rfl (lv_at hl 1 rfl) ?_
  refine z_callX (As := []) (rest := []) C hE hWL hS (mX11_needless 0 kd0 σ (v, σ1) hr) cwX11_needless cvX11_needless rfl mlL_263 ⟨by decide, by decide⟩ rfl hl.1 (Nat.le_of_ble_eq_true rfl) ⟨by show cells ≤ 601024; omega, by show slots ≤ 7293034; omega⟩ dL_law_2250 rfl (fun H locs hWL hS => ?_)
  refine lv_aload_n hx0 hb dL_law_2253 rfl (lv_at hl 2 rfl) ?_
  refine z_callM (As := []) (rest := [.int v]) C hE hWL hS (mX12_needless  τ (v, τ1) hq) cwX12_needless cvX12_needless rfl mlL_266 ⟨by decide, by decide⟩ rfl hl.1 (Nat.le_of_ble_eq_true rfl) ⟨by show cells ≤ 601024; omega, by show slots ≤ 7293034; omega⟩ dL_law_2254 rfl (fun H locs hWL hS => ?_)
  refine lv_icmp_eq (tgt := 2459) hx0 hb dL_law_2257 (by decide) (fun _ => ?_) (fun z => absurd rfl z)
  refine W.widen (k := cells + 4) (n := slots + 24) (by omega) (by omega) ?_
  exact hend _ _ _ _ _ _ hrel hWL hS (lv_sub hl [0, 1, 2, 3, 4] rfl)
def Sim40 (Rel : Mem → Mem → Prop) : Prop := ∀ (σ τ : Mem), Rel σ τ → ∃ (v : Int32) (σ' τ' : Mem), fX11_inversions 0 σ = some (v, σ') ∧ fX12_inversions τ = some (v, τ') ∧ Rel σ' τ'
set_option maxRecDepth 100000 in
set_option maxHeartbeats 4000000 in
theorem lc_40 {p : Program} {l : Launch} {e : Env} {s : State} {m : MethodId} {args : Array Value} {below : List Frame} {meth : Method} {c : Code} {E : Ev} {a b o b0 N : Nat} {xs : Nat → Int32} {Q : State → Prop} {Rel : Mem → Mem → Prop} (S : Sim40 Rel) (C : Cx p l s m args meth c E cL_law 7 RL (some .boolean)) (hN : Nx s) (hE : E.2.1 = s.heap) (hX : va_X b0 N xs s s.heap) (hbl : b0 < s.heap.size) {x4 : Int32} (hin : ∀ j : Nat, j < 6 → vp_in (x4 + Int32.ofNat j) N) {σ τ : Mem} {w : Int64} {H : Heap} {locs : List Loc} {cells slots : Nat} {ls : Array Slot} (hcs : cells + 4 ≤ 601024 ∧ slots + 24 ≤ 7293034) (hrel : Rel σ τ) (hWL : WL E a b o σ τ w H) (hS : va_S (An s) s.heap H locs) (hl : lv_has ls 7 [(0, .ref b0), (1, .ref (a + 0)), (2, .ref (b + 0)), (3, .ref o), (4, .int x4)]) (hend : ∀ (σ τ : Mem) (w : Int64) (H : Heap) (locs : List Loc) (ls : Array Slot), Rel σ τ → WL E a b o σ τ w H → va_S (An s) s.heap H locs → lv_has ls 7 [(0, .ref b0), (1, .ref (a + 0)), (2, .ref (b + 0)), (3, .ref o), (4, .int x4)] → W p l e room_1 s m args below meth c H locs (cells + 4) (slots + 24) Q (F0 m 2459 ls [])) : W p l e room_1 s m args below meth c H locs cells slots Q (F0 m 2262 ls []) := by
  have hx0 := C.1
  have hb := C.2.1
  have hbA : ¬ An s b0 := Nat.not_le.mpr hbl
  obtain ⟨v, σ1, τ1, hr, hq, hrel⟩ := S σ τ  hrel
  refine lv_aload_n hx0 hb dL_law_2262 rfl (lv_at hl 1 rfl) ?_
  refine z_callX (As := []) (rest := []) C hE hWL hS (mX11_inversions 0 kd0 σ (v, σ1) hr) cwX11_inversions cvX11_inversions rfl mlL_267 ⟨by decide, by decide⟩ rfl hl.1 (Nat.le_of_ble_eq_true rfl) ⟨by show cells ≤ 601024; omega, by show slots ≤ 7293034; omega⟩ dL_law_2263 rfl (fun H locs hWL hS => ?_)
  refine lv_aload_n hx0 hb dL_law_2266 rfl (lv_at hl 2 rfl) ?_
  refine z_callM (As := []) (rest := [.int v]) C hE hWL hS (mX12_inversions  τ (v, τ1) hq) cwX12_inversions cvX12_inversions rfl mlL_270 ⟨by decide, by decide⟩ rfl hl.1 (Nat.le_of_ble_eq_true rfl) ⟨by show cells ≤ 601024; omega, by show slots ≤ 7293034; omega⟩ dL_law_2267 rfl (fun H locs hWL hS => ?_)
  refine lv_icmp_eq (tgt := 2459) hx0 hb dL_law_2270 (by decide) (fun _ => ?_) (fun z => absurd rfl z)
  refine W.widen (k := cells + 4) (n := slots + 24) (by omega) (by omega) ?_
  exact hend _ _ _ _ _ _ hrel hWL hS (lv_sub hl [0, 1, 2, 3, 4] rfl)
def Sim41 (Rel : Mem → Mem → Prop) : Prop := ∀ (σ τ : Mem), Rel σ τ → ∃ (v : Int32) (σ' τ' : Mem), fX11_movesToOrder 0 σ = some (v, σ') ∧ fX12_movesToOrder τ = some (v, τ') ∧ Rel σ' τ'
set_option maxRecDepth 100000 in
set_option maxHeartbeats 4000000 in
theorem lc_41 {p : Program} {l : Launch} {e : Env} {s : State} {m : MethodId} {args : Array Value} {below : List Frame} {meth : Method} {c : Code} {E : Ev} {a b o b0 N : Nat} {xs : Nat → Int32} {Q : State → Prop} {Rel : Mem → Mem → Prop} (S : Sim41 Rel) (C : Cx p l s m args meth c E cL_law 7 RL (some .boolean)) (hN : Nx s) (hE : E.2.1 = s.heap) (hX : va_X b0 N xs s s.heap) (hbl : b0 < s.heap.size) {x4 : Int32} (hin : ∀ j : Nat, j < 6 → vp_in (x4 + Int32.ofNat j) N) {σ τ : Mem} {w : Int64} {H : Heap} {locs : List Loc} {cells slots : Nat} {ls : Array Slot} (hcs : cells + 4 ≤ 601024 ∧ slots + 24 ≤ 7293034) (hrel : Rel σ τ) (hWL : WL E a b o σ τ w H) (hS : va_S (An s) s.heap H locs) (hl : lv_has ls 7 [(0, .ref b0), (1, .ref (a + 0)), (2, .ref (b + 0)), (3, .ref o), (4, .int x4)]) (hend : ∀ (σ τ : Mem) (w : Int64) (H : Heap) (locs : List Loc) (ls : Array Slot), Rel σ τ → WL E a b o σ τ w H → va_S (An s) s.heap H locs → lv_has ls 7 [(0, .ref b0), (1, .ref (a + 0)), (2, .ref (b + 0)), (3, .ref o), (4, .int x4)] → W p l e room_1 s m args below meth c H locs (cells + 4) (slots + 24) Q (F0 m 2459 ls [])) : W p l e room_1 s m args below meth c H locs cells slots Q (F0 m 2275 ls []) := by
  have hx0 := C.1
  have hb := C.2.1
  have hbA : ¬ An s b0 := Nat.not_le.mpr hbl
  obtain ⟨v, σ1, τ1, hr, hq, hrel⟩ := S σ τ  hrel
  refine lv_aload_n hx0 hb dL_law_2275 rfl (lv_at hl 1 rfl) ?_
  refine z_callX (As := []) (rest := []) C hE hWL hS (mX11_movesToOrder 0 kd0 σ (v, σ1) hr) cwX11_movesToOrder cvX11_movesToOrder rfl mlL_271 ⟨by decide, by decide⟩ rfl hl.1 (Nat.le_of_ble_eq_true rfl) ⟨by show cells ≤ 601024; omega, by show slots ≤ 7293034; omega⟩ dL_law_2276 rfl (fun H locs hWL hS => ?_)
  refine lv_aload_n hx0 hb dL_law_2279 rfl (lv_at hl 2 rfl) ?_
  refine z_callM (As := []) (rest := [.int v]) C hE hWL hS (mX12_movesToOrder  τ (v, τ1) hq) cwX12_movesToOrder cvX12_movesToOrder rfl mlL_274 ⟨by decide, by decide⟩ rfl hl.1 (Nat.le_of_ble_eq_true rfl) ⟨by show cells ≤ 601024; omega, by show slots ≤ 7293034; omega⟩ dL_law_2280 rfl (fun H locs hWL hS => ?_)
  refine lv_icmp_eq (tgt := 2459) hx0 hb dL_law_2283 (by decide) (fun _ => ?_) (fun z => absurd rfl z)
  refine W.widen (k := cells + 4) (n := slots + 24) (by omega) (by omega) ?_
  exact hend _ _ _ _ _ _ hrel hWL hS (lv_sub hl [0, 1, 2, 3, 4] rfl)
def Sim42 (Rel : Mem → Mem → Prop) : Prop := ∀ (σ τ : Mem), Rel σ τ → ∃ (v : Int32) (σ' τ' : Mem), fX11_longestRun 0 σ = some (v, σ') ∧ fX12_longestRun τ = some (v, τ') ∧ Rel σ' τ'
set_option maxRecDepth 100000 in
set_option maxHeartbeats 4000000 in
theorem lc_42 {p : Program} {l : Launch} {e : Env} {s : State} {m : MethodId} {args : Array Value} {below : List Frame} {meth : Method} {c : Code} {E : Ev} {a b o b0 N : Nat} {xs : Nat → Int32} {Q : State → Prop} {Rel : Mem → Mem → Prop} (S : Sim42 Rel) (C : Cx p l s m args meth c E cL_law 7 RL (some .boolean)) (hN : Nx s) (hE : E.2.1 = s.heap) (hX : va_X b0 N xs s s.heap) (hbl : b0 < s.heap.size) {x4 : Int32} (hin : ∀ j : Nat, j < 6 → vp_in (x4 + Int32.ofNat j) N) {σ τ : Mem} {w : Int64} {H : Heap} {locs : List Loc} {cells slots : Nat} {ls : Array Slot} (hcs : cells + 4 ≤ 601024 ∧ slots + 24 ≤ 7293034) (hrel : Rel σ τ) (hWL : WL E a b o σ τ w H) (hS : va_S (An s) s.heap H locs) (hl : lv_has ls 7 [(0, .ref b0), (1, .ref (a + 0)), (2, .ref (b + 0)), (3, .ref o), (4, .int x4)]) (hend : ∀ (σ τ : Mem) (w : Int64) (H : Heap) (locs : List Loc) (ls : Array Slot), Rel σ τ → WL E a b o σ τ w H → va_S (An s) s.heap H locs → lv_has ls 7 [(0, .ref b0), (1, .ref (a + 0)), (2, .ref (b + 0)), (3, .ref o), (4, .int x4)] → W p l e room_1 s m args below meth c H locs (cells + 4) (slots + 24) Q (F0 m 2459 ls [])) : W p l e room_1 s m args below meth c H locs cells slots Q (F0 m 2288 ls []) := by
  have hx0 := C.1
  have hb := C.2.1
  have hbA : ¬ An s b0 := Nat.not_le.mpr hbl
  obtain ⟨v, σ1, τ1, hr, hq, hrel⟩ := S σ τ  hrel
  refine lv_aload_n hx0 hb dL_law_2288 rfl (lv_at hl 1 rfl) ?_
  refine z_callX (As := []) (rest := []) C hE hWL hS (mX11_longestRun 0 kd0 σ (v, σ1) hr) cwX11_longestRun cvX11_longestRun rfl mlL_275 ⟨by decide, by decide⟩ rfl hl.1 (Nat.le_of_ble_eq_true rfl) ⟨by show cells ≤ 601024; omega, by show slots ≤ 7293034; omega⟩ dL_law_2289 rfl (fun H locs hWL hS => ?_)
  refine lv_aload_n hx0 hb dL_law_2292 rfl (lv_at hl 2 rfl) ?_
  refine z_callM (As := []) (rest := [.int v]) C hE hWL hS (mX12_longestRun  τ (v, τ1) hq) cwX12_longestRun cvX12_longestRun rfl mlL_278 ⟨by decide, by decide⟩ rfl hl.1 (Nat.le_of_ble_eq_true rfl) ⟨by show cells ≤ 601024; omega, by show slots ≤ 7293034; omega⟩ dL_law_2293 rfl (fun H locs hWL hS => ?_)
  refine lv_icmp_eq (tgt := 2459) hx0 hb dL_law_2296 (by decide) (fun _ => ?_) (fun z => absurd rfl z)
  refine W.widen (k := cells + 4) (n := slots + 24) (by omega) (by omega) ?_
  exact hend _ _ _ _ _ _ hrel hWL hS (lv_sub hl [0, 1, 2, 3, 4] rfl)
def Sim43 (Rel : Mem → Mem → Prop) : Prop := ∀ (σ τ : Mem), Rel σ τ → ∃ (r : Rx) (q : Int32 × Mem) (k : Int32), fX11_firstMisplaced 0 σ = some r ∧ fX12_firstMisplaced τ = some q ∧ ((∃ v, r.1 = .inr v ∧ k = 0) ∨ (r.1 = .inl 3 ∧ k = 1)) ∧ (∀ v, r.1 = .inr v → q.1 = v) ∧ q.2 0 0 = k ∧ Rel r.2 q.2
set_option maxRecDepth 100000 in
set_option maxHeartbeats 4000000 in
theorem lc_43 {p : Program} {l : Launch} {e : Env} {s : State} {m : MethodId} {args : Array Value} {below : List Frame} {meth : Method} {c : Code} {E : Ev} {a b o b0 N : Nat} {xs : Nat → Int32} {Q : State → Prop} {Rel : Mem → Mem → Prop} (S : Sim43 Rel) (C : Cx p l s m args meth c E cL_law 7 RL (some .boolean)) (hN : Nx s) (hE : E.2.1 = s.heap) (hX : va_X b0 N xs s s.heap) (hbl : b0 < s.heap.size) {x4 : Int32} (hin : ∀ j : Nat, j < 6 → vp_in (x4 + Int32.ofNat j) N) {σ τ : Mem} {w : Int64} {H : Heap} {locs : List Loc} {cells slots : Nat} {ls : Array Slot} (hcs : cells + 4 ≤ 601024 ∧ slots + 24 ≤ 7293034) (hrel : Rel σ τ) (hWL : WL E a b o σ τ w H) (hS : va_S (An s) s.heap H locs) (hl : lv_has ls 7 [(0, .ref b0), (1, .ref (a + 0)), (2, .ref (b + 0)), (3, .ref o), (4, .int x4)]) (hend : ∀ (σ τ : Mem) (w : Int64) (H : Heap) (locs : List Loc) (ls : Array Slot), Rel σ τ → WL E a b o σ τ w H → va_S (An s) s.heap H locs → lv_has ls 7 [(0, .ref b0), (1, .ref (a + 0)), (2, .ref (b + 0)), (3, .ref o), (4, .int x4)] → W p l e room_1 s m args below meth c H locs (cells + 4) (slots + 24) Q (F0 m 2459 ls [])) : W p l e room_1 s m args below meth c H locs cells slots Q (F0 m 2301 ls []) := by
  have hx0 := C.1
  have hb := C.2.1
  have hbA : ¬ An s b0 := Nat.not_le.mpr hbl
  obtain ⟨r, q, k, hr, hq, hk, hv, ht, hrel⟩ := S σ τ  hrel
  refine lv_aload_n hx0 hb dL_law_2301 rfl (lv_at hl 1 rfl) ?_
  refine lv_aload_n hx0 hb dL_law_2302 rfl (lv_at hl 3 rfl) ?_
  refine z_wrap (As := [.ref (a + 0), .ref o]) (rest := []) C hN hE hWL hS (mL_firstMisplaced  σ r hr w k hk) cwL_firstMisplaced csL_firstMisplaced mlL_279 ⟨by decide, by decide⟩ rfl hl.1 (Nat.le_of_ble_eq_true rfl) ⟨Nat.le_trans (Nat.add_le_add_left (show 1 ≤ 4 by decide) _) hcs.1, Nat.le_trans (Nat.add_le_add_left (show 6 ≤ 24 by decide) _) hcs.2⟩ dL_law_2303 rfl (fun H locs hWL hS => ?_)
  refine W.widen (k := cells + 4) (n := slots + 24) (Nat.add_le_add_left (by decide) _) (Nat.add_le_add_left (by decide) _) ?_
  refine lv_istore (lv' := [(5, .int k), (0, .ref b0), (1, .ref (a + 0)), (2, .ref (b + 0)), (3, .ref o), (4, .int x4)]) hx0 hb dL_law_2306 hl (by decide) rfl (fun ls hl => ?_)
  refine lv_aload_n hx0 hb dL_law_2308 rfl (lv_at hl 3 rfl) ?_
  refine z_callM (As := []) (rest := []) C hE hWL hS (mX12_firstMisplaced  τ q hq) cwX12_firstMisplaced cvX12_firstMisplaced rfl mlL_281 ⟨by decide, by decide⟩ rfl hl.1 (Nat.le_of_ble_eq_true rfl) ⟨hcs.1, hcs.2⟩ dL_law_2309 rfl (fun H locs hWL hS => ?_)
  refine lv_istore (lv' := [(6, .int q.1), (5, .int k), (0, .ref b0), (1, .ref (a + 0)), (2, .ref (b + 0)), (3, .ref o), (4, .int x4)]) hx0 hb dL_law_2312 hl (by decide) rfl (fun ls hl => ?_)
  refine lv_aload_n hx0 hb dL_law_2314 rfl (lv_at hl 4 rfl) ?_
  refine z_callM (As := []) (rest := []) C hE hWL hS (mX12_thrown q.2 (q.2 0 0) rfl) cwX12_thrown cvX12_thrown rfl mlL_132 ⟨by decide, by decide⟩ rfl hl.1 (Nat.le_of_ble_eq_true rfl) ⟨hcs.1, hcs.2⟩ dL_law_2315 rfl (fun H locs hWL hS => ?_)
  refine lv_iload hx0 hb dL_law_2318 (lv_at hl 1 rfl) ?_
  refine lv_icmp_eq (tgt := 2325) hx0 hb dL_law_2320 (by decide) (fun _ => ?_) (fun z => absurd ht z)
  refine lv_iload hx0 hb dL_law_2325 (lv_at hl 1 rfl) ?_
  refine lv_if_ne (tgt := 2342) hx0 hb dL_law_2327 (by decide) (fun _ => ?_) (fun z => ?_)
  · refine lv_goto (tgt := 2459) hx0 hb dL_law_2342 (by decide) ?_
    exact hend _ _ _ _ _ _ hrel hWL hS (lv_sub hl [2, 3, 4, 5, 6] rfl)
  obtain ⟨v9, e9⟩ : ∃ v, r.1 = .inr v := by
    rcases hk with ⟨v, e, _⟩ | ⟨_, e⟩
    · exact ⟨v, e⟩
    · rw [e] at z; exact absurd z (by decide)
  have e8 : ou r w = q.1.toInt64 := by unfold ou; rw [e9, hv v9 e9]
  refine lv_aload_n hx0 hb dL_law_2330 rfl (lv_at hl 5 rfl) ?_
  refine lv_iconst (v := (0 : Int32)) hx0 hb dL_law_2331 (by decide) ?_
  refine z_lald C hWL.2.2.1 dL_law_2332 ?_
  refine lv_iload hx0 hb dL_law_2333 (lv_at hl 0 rfl) ?_
  refine lv_i2l hx0 hb dL_law_2335 rfl ?_
  refine W.lcmp hx0 hb dL_law_2336 ?_
  rw [e8, lcmp0]
  refine lv_if_eq (tgt := 2342) hx0 hb dL_law_2337 (by decide) (fun _ => ?_) (fun z => absurd rfl z)
  refine lv_goto (tgt := 2459) hx0 hb dL_law_2342 (by decide) ?_
  exact hend _ _ _ _ _ _ hrel hWL hS (lv_sub hl [2, 3, 4, 5, 6] rfl)
def Sim44 (Rel : Mem → Mem → Prop) : Prop := ∀ (σ τ : Mem), Rel σ τ → ∃ (r : Rx) (q : Int32 × Mem) (k : Int32), fX11_undo 0 σ = some r ∧ fX12_undo τ = some q ∧ ((∃ v, r.1 = .inr v ∧ k = 0) ∨ (r.1 = .inl 0 ∧ k = 1)) ∧ (∀ v, r.1 = .inr v → q.1 = v) ∧ q.2 0 0 = k ∧ Rel r.2 q.2
set_option maxRecDepth 100000 in
set_option maxHeartbeats 4000000 in
theorem lc_44 {p : Program} {l : Launch} {e : Env} {s : State} {m : MethodId} {args : Array Value} {below : List Frame} {meth : Method} {c : Code} {E : Ev} {a b o b0 N : Nat} {xs : Nat → Int32} {Q : State → Prop} {Rel : Mem → Mem → Prop} (S : Sim44 Rel) (C : Cx p l s m args meth c E cL_law 7 RL (some .boolean)) (hN : Nx s) (hE : E.2.1 = s.heap) (hX : va_X b0 N xs s s.heap) (hbl : b0 < s.heap.size) {x4 : Int32} (hin : ∀ j : Nat, j < 6 → vp_in (x4 + Int32.ofNat j) N) {σ τ : Mem} {w : Int64} {H : Heap} {locs : List Loc} {cells slots : Nat} {ls : Array Slot} (hcs : cells + 4 ≤ 601024 ∧ slots + 24 ≤ 7293034) (hrel : Rel σ τ) (hWL : WL E a b o σ τ w H) (hS : va_S (An s) s.heap H locs) (hl : lv_has ls 7 [(0, .ref b0), (1, .ref (a + 0)), (2, .ref (b + 0)), (3, .ref o), (4, .int x4)]) (hend : ∀ (σ τ : Mem) (w : Int64) (H : Heap) (locs : List Loc) (ls : Array Slot), Rel σ τ → WL E a b o σ τ w H → va_S (An s) s.heap H locs → lv_has ls 7 [(0, .ref b0), (1, .ref (a + 0)), (2, .ref (b + 0)), (3, .ref o), (4, .int x4)] → W p l e room_1 s m args below meth c H locs (cells + 4) (slots + 24) Q (F0 m 2459 ls [])) : W p l e room_1 s m args below meth c H locs cells slots Q (F0 m 2345 ls []) := by
  have hx0 := C.1
  have hb := C.2.1
  have hbA : ¬ An s b0 := Nat.not_le.mpr hbl
  obtain ⟨r, q, k, hr, hq, hk, hv, ht, hrel⟩ := S σ τ  hrel
  refine lv_aload_n hx0 hb dL_law_2345 rfl (lv_at hl 1 rfl) ?_
  refine lv_aload_n hx0 hb dL_law_2346 rfl (lv_at hl 3 rfl) ?_
  refine z_wrap (As := [.ref (a + 0), .ref o]) (rest := []) C hN hE hWL hS (mL_undo  σ r hr w k hk) cwL_undo csL_undo mlL_282 ⟨by decide, by decide⟩ rfl hl.1 (Nat.le_of_ble_eq_true rfl) ⟨Nat.le_trans (Nat.add_le_add_left (show 1 ≤ 4 by decide) _) hcs.1, Nat.le_trans (Nat.add_le_add_left (show 6 ≤ 24 by decide) _) hcs.2⟩ dL_law_2347 rfl (fun H locs hWL hS => ?_)
  refine W.widen (k := cells + 4) (n := slots + 24) (Nat.add_le_add_left (by decide) _) (Nat.add_le_add_left (by decide) _) ?_
  refine lv_istore (lv' := [(5, .int k), (0, .ref b0), (1, .ref (a + 0)), (2, .ref (b + 0)), (3, .ref o), (4, .int x4)]) hx0 hb dL_law_2350 hl (by decide) rfl (fun ls hl => ?_)
  refine lv_aload_n hx0 hb dL_law_2352 rfl (lv_at hl 3 rfl) ?_
  refine z_callM (As := []) (rest := []) C hE hWL hS (mX12_undo  τ q hq) cwX12_undo cvX12_undo rfl mlL_284 ⟨by decide, by decide⟩ rfl hl.1 (Nat.le_of_ble_eq_true rfl) ⟨hcs.1, hcs.2⟩ dL_law_2353 rfl (fun H locs hWL hS => ?_)
  refine lv_istore (lv' := [(6, .int q.1), (5, .int k), (0, .ref b0), (1, .ref (a + 0)), (2, .ref (b + 0)), (3, .ref o), (4, .int x4)]) hx0 hb dL_law_2356 hl (by decide) rfl (fun ls hl => ?_)
  refine lv_aload_n hx0 hb dL_law_2358 rfl (lv_at hl 4 rfl) ?_
  refine z_callM (As := []) (rest := []) C hE hWL hS (mX12_thrown q.2 (q.2 0 0) rfl) cwX12_thrown cvX12_thrown rfl mlL_132 ⟨by decide, by decide⟩ rfl hl.1 (Nat.le_of_ble_eq_true rfl) ⟨hcs.1, hcs.2⟩ dL_law_2359 rfl (fun H locs hWL hS => ?_)
  refine lv_iload hx0 hb dL_law_2362 (lv_at hl 1 rfl) ?_
  refine lv_icmp_eq (tgt := 2369) hx0 hb dL_law_2364 (by decide) (fun _ => ?_) (fun z => absurd ht z)
  refine lv_iload hx0 hb dL_law_2369 (lv_at hl 1 rfl) ?_
  refine lv_if_ne (tgt := 2386) hx0 hb dL_law_2371 (by decide) (fun _ => ?_) (fun z => ?_)
  · refine lv_goto (tgt := 2459) hx0 hb dL_law_2386 (by decide) ?_
    exact hend _ _ _ _ _ _ hrel hWL hS (lv_sub hl [2, 3, 4, 5, 6] rfl)
  obtain ⟨v9, e9⟩ : ∃ v, r.1 = .inr v := by
    rcases hk with ⟨v, e, _⟩ | ⟨_, e⟩
    · exact ⟨v, e⟩
    · rw [e] at z; exact absurd z (by decide)
  have e8 : ou r w = q.1.toInt64 := by unfold ou; rw [e9, hv v9 e9]
  refine lv_aload_n hx0 hb dL_law_2374 rfl (lv_at hl 5 rfl) ?_
  refine lv_iconst (v := (0 : Int32)) hx0 hb dL_law_2375 (by decide) ?_
  refine z_lald C hWL.2.2.1 dL_law_2376 ?_
  refine lv_iload hx0 hb dL_law_2377 (lv_at hl 0 rfl) ?_
  refine lv_i2l hx0 hb dL_law_2379 rfl ?_
  refine W.lcmp hx0 hb dL_law_2380 ?_
  rw [e8, lcmp0]
  refine lv_if_eq (tgt := 2386) hx0 hb dL_law_2381 (by decide) (fun _ => ?_) (fun z => absurd rfl z)
  refine lv_goto (tgt := 2459) hx0 hb dL_law_2386 (by decide) ?_
  exact hend _ _ _ _ _ _ hrel hWL hS (lv_sub hl [2, 3, 4, 5, 6] rfl)
def Sim45 (Rel : Mem → Mem → Prop) : Prop := ∀ (σ τ : Mem), Rel σ τ → ∃ (v : Int32) (τ' : Mem), fX11_undoCount 0 σ = some v ∧ fX12_undoCount τ = some (v, τ') ∧ Rel σ τ'
set_option maxRecDepth 100000 in
set_option maxHeartbeats 4000000 in
theorem lc_45 {p : Program} {l : Launch} {e : Env} {s : State} {m : MethodId} {args : Array Value} {below : List Frame} {meth : Method} {c : Code} {E : Ev} {a b o b0 N : Nat} {xs : Nat → Int32} {Q : State → Prop} {Rel : Mem → Mem → Prop} (S : Sim45 Rel) (C : Cx p l s m args meth c E cL_law 7 RL (some .boolean)) (hN : Nx s) (hE : E.2.1 = s.heap) (hX : va_X b0 N xs s s.heap) (hbl : b0 < s.heap.size) {x4 : Int32} (hin : ∀ j : Nat, j < 6 → vp_in (x4 + Int32.ofNat j) N) {σ τ : Mem} {w : Int64} {H : Heap} {locs : List Loc} {cells slots : Nat} {ls : Array Slot} (hcs : cells + 4 ≤ 601024 ∧ slots + 24 ≤ 7293034) (hrel : Rel σ τ) (hWL : WL E a b o σ τ w H) (hS : va_S (An s) s.heap H locs) (hl : lv_has ls 7 [(0, .ref b0), (1, .ref (a + 0)), (2, .ref (b + 0)), (3, .ref o), (4, .int x4)]) (hend : ∀ (σ τ : Mem) (w : Int64) (H : Heap) (locs : List Loc) (ls : Array Slot), Rel σ τ → WL E a b o σ τ w H → va_S (An s) s.heap H locs → lv_has ls 7 [(0, .ref b0), (1, .ref (a + 0)), (2, .ref (b + 0)), (3, .ref o), (4, .int x4)] → W p l e room_1 s m args below meth c H locs (cells + 4) (slots + 24) Q (F0 m 2459 ls [])) : W p l e room_1 s m args below meth c H locs cells slots Q (F0 m 2389 ls []) := by
  have hx0 := C.1
  have hb := C.2.1
  have hbA : ¬ An s b0 := Nat.not_le.mpr hbl
  obtain ⟨v, τ1, hr, hq, hrel⟩ := S σ τ  hrel
  refine lv_aload_n hx0 hb dL_law_2389 rfl (lv_at hl 1 rfl) ?_
  refine z_callX (As := []) (rest := []) C hE hWL hS (mX11_undoCount 0 kd0 σ v hr) cwX11_undoCount cvX11_undoCount rfl mlL_285 ⟨by decide, by decide⟩ rfl hl.1 (Nat.le_of_ble_eq_true rfl) ⟨by show cells ≤ 601024; omega, by show slots ≤ 7293034; omega⟩ dL_law_2390 rfl (fun H locs hWL hS => ?_)
  refine lv_aload_n hx0 hb dL_law_2393 rfl (lv_at hl 2 rfl) ?_
  refine z_callM (As := []) (rest := [.int v]) C hE hWL hS (mX12_undoCount  τ (v, τ1) hq) cwX12_undoCount cvX12_undoCount rfl mlL_288 ⟨by decide, by decide⟩ rfl hl.1 (Nat.le_of_ble_eq_true rfl) ⟨by show cells ≤ 601024; omega, by show slots ≤ 7293034; omega⟩ dL_law_2394 rfl (fun H locs hWL hS => ?_)
  refine lv_icmp_eq (tgt := 2459) hx0 hb dL_law_2397 (by decide) (fun _ => ?_) (fun z => absurd rfl z)
  refine W.widen (k := cells + 4) (n := slots + 24) (by omega) (by omega) ?_
  exact hend _ _ _ _ _ _ hrel hWL hS (lv_sub hl [0, 1, 2, 3, 4] rfl)
def Sim46 (Rel : Mem → Mem → Prop) : Prop := ∀ (σ τ : Mem), Rel σ τ → ∃ (v : Int32) (σ' τ' : Mem), fX11_save 0 σ = some (v, σ') ∧ fX12_save τ = some (v, τ') ∧ Rel σ' τ'
set_option maxRecDepth 100000 in
set_option maxHeartbeats 4000000 in
theorem lc_46 {p : Program} {l : Launch} {e : Env} {s : State} {m : MethodId} {args : Array Value} {below : List Frame} {meth : Method} {c : Code} {E : Ev} {a b o b0 N : Nat} {xs : Nat → Int32} {Q : State → Prop} {Rel : Mem → Mem → Prop} (S : Sim46 Rel) (C : Cx p l s m args meth c E cL_law 7 RL (some .boolean)) (hN : Nx s) (hE : E.2.1 = s.heap) (hX : va_X b0 N xs s s.heap) (hbl : b0 < s.heap.size) {x4 : Int32} (hin : ∀ j : Nat, j < 6 → vp_in (x4 + Int32.ofNat j) N) {σ τ : Mem} {w : Int64} {H : Heap} {locs : List Loc} {cells slots : Nat} {ls : Array Slot} (hcs : cells + 4 ≤ 601024 ∧ slots + 24 ≤ 7293034) (hrel : Rel σ τ) (hWL : WL E a b o σ τ w H) (hS : va_S (An s) s.heap H locs) (hl : lv_has ls 7 [(0, .ref b0), (1, .ref (a + 0)), (2, .ref (b + 0)), (3, .ref o), (4, .int x4)]) (hend : ∀ (σ τ : Mem) (w : Int64) (H : Heap) (locs : List Loc) (ls : Array Slot), Rel σ τ → WL E a b o σ τ w H → va_S (An s) s.heap H locs → lv_has ls 7 [(0, .ref b0), (1, .ref (a + 0)), (2, .ref (b + 0)), (3, .ref o), (4, .int x4)] → W p l e room_1 s m args below meth c H locs (cells + 4) (slots + 24) Q (F0 m 2459 ls [])) : W p l e room_1 s m args below meth c H locs cells slots Q (F0 m 2402 ls []) := by
  have hx0 := C.1
  have hb := C.2.1
  have hbA : ¬ An s b0 := Nat.not_le.mpr hbl
  obtain ⟨v, σ1, τ1, hr, hq, hrel⟩ := S σ τ  hrel
  refine lv_aload_n hx0 hb dL_law_2402 rfl (lv_at hl 1 rfl) ?_
  refine z_callX (As := []) (rest := []) C hE hWL hS (mX11_save 0 kd0 σ (v, σ1) hr) cwX11_save cvX11_save rfl mlL_289 ⟨by decide, by decide⟩ rfl hl.1 (Nat.le_of_ble_eq_true rfl) ⟨by show cells ≤ 601024; omega, by show slots ≤ 7293034; omega⟩ dL_law_2403 rfl (fun H locs hWL hS => ?_)
  refine lv_aload_n hx0 hb dL_law_2406 rfl (lv_at hl 2 rfl) ?_
  refine z_callM (As := []) (rest := [.int v]) C hE hWL hS (mX12_save  τ (v, τ1) hq) cwX12_save cvX12_save rfl mlL_292 ⟨by decide, by decide⟩ rfl hl.1 (Nat.le_of_ble_eq_true rfl) ⟨by show cells ≤ 601024; omega, by show slots ≤ 7293034; omega⟩ dL_law_2407 rfl (fun H locs hWL hS => ?_)
  refine lv_icmp_eq (tgt := 2459) hx0 hb dL_law_2410 (by decide) (fun _ => ?_) (fun z => absurd rfl z)
  refine W.widen (k := cells + 4) (n := slots + 24) (by omega) (by omega) ?_
  exact hend _ _ _ _ _ _ hrel hWL hS (lv_sub hl [0, 1, 2, 3, 4] rfl)
def Sim47 (Rel : Mem → Mem → Prop) : Prop := ∀ (σ τ : Mem), Rel σ τ → ∃ (r : Rx) (q : Int32 × Mem) (k : Int32), fX11_restore 0 σ = some r ∧ fX12_restore τ = some q ∧ ((∃ v, r.1 = .inr v ∧ k = 0) ∨ (r.1 = .inl 0 ∧ k = 1)) ∧ (∀ v, r.1 = .inr v → q.1 = v) ∧ q.2 0 0 = k ∧ Rel r.2 q.2
set_option maxRecDepth 100000 in
set_option maxHeartbeats 4000000 in
theorem lc_47 {p : Program} {l : Launch} {e : Env} {s : State} {m : MethodId} {args : Array Value} {below : List Frame} {meth : Method} {c : Code} {E : Ev} {a b o b0 N : Nat} {xs : Nat → Int32} {Q : State → Prop} {Rel : Mem → Mem → Prop} (S : Sim47 Rel) (C : Cx p l s m args meth c E cL_law 7 RL (some .boolean)) (hN : Nx s) (hE : E.2.1 = s.heap) (hX : va_X b0 N xs s s.heap) (hbl : b0 < s.heap.size) {x4 : Int32} (hin : ∀ j : Nat, j < 6 → vp_in (x4 + Int32.ofNat j) N) {σ τ : Mem} {w : Int64} {H : Heap} {locs : List Loc} {cells slots : Nat} {ls : Array Slot} (hcs : cells + 4 ≤ 601024 ∧ slots + 24 ≤ 7293034) (hrel : Rel σ τ) (hWL : WL E a b o σ τ w H) (hS : va_S (An s) s.heap H locs) (hl : lv_has ls 7 [(0, .ref b0), (1, .ref (a + 0)), (2, .ref (b + 0)), (3, .ref o), (4, .int x4)]) (hend : ∀ (σ τ : Mem) (w : Int64) (H : Heap) (locs : List Loc) (ls : Array Slot), Rel σ τ → WL E a b o σ τ w H → va_S (An s) s.heap H locs → lv_has ls 7 [(0, .ref b0), (1, .ref (a + 0)), (2, .ref (b + 0)), (3, .ref o), (4, .int x4)] → W p l e room_1 s m args below meth c H locs (cells + 4) (slots + 24) Q (F0 m 2459 ls [])) : W p l e room_1 s m args below meth c H locs cells slots Q (F0 m 2415 ls []) := by
  have hx0 := C.1
  have hb := C.2.1
  have hbA : ¬ An s b0 := Nat.not_le.mpr hbl
  obtain ⟨r, q, k, hr, hq, hk, hv, ht, hrel⟩ := S σ τ  hrel
  refine lv_aload_n hx0 hb dL_law_2415 rfl (lv_at hl 1 rfl) ?_
  refine lv_aload_n hx0 hb dL_law_2416 rfl (lv_at hl 3 rfl) ?_
  refine z_wrap (As := [.ref (a + 0), .ref o]) (rest := []) C hN hE hWL hS (mL_restore  σ r hr w k hk) cwL_restore csL_restore mlL_293 ⟨by decide, by decide⟩ rfl hl.1 (Nat.le_of_ble_eq_true rfl) ⟨Nat.le_trans (Nat.add_le_add_left (show 1 ≤ 4 by decide) _) hcs.1, Nat.le_trans (Nat.add_le_add_left (show 6 ≤ 24 by decide) _) hcs.2⟩ dL_law_2417 rfl (fun H locs hWL hS => ?_)
  refine W.widen (k := cells + 4) (n := slots + 24) (Nat.add_le_add_left (by decide) _) (Nat.add_le_add_left (by decide) _) ?_
  refine lv_istore (lv' := [(5, .int k), (0, .ref b0), (1, .ref (a + 0)), (2, .ref (b + 0)), (3, .ref o), (4, .int x4)]) hx0 hb dL_law_2420 hl (by decide) rfl (fun ls hl => ?_)
  refine lv_aload_n hx0 hb dL_law_2422 rfl (lv_at hl 3 rfl) ?_
  refine z_callM (As := []) (rest := []) C hE hWL hS (mX12_restore  τ q hq) cwX12_restore cvX12_restore rfl mlL_295 ⟨by decide, by decide⟩ rfl hl.1 (Nat.le_of_ble_eq_true rfl) ⟨hcs.1, hcs.2⟩ dL_law_2423 rfl (fun H locs hWL hS => ?_)
  refine lv_istore (lv' := [(6, .int q.1), (5, .int k), (0, .ref b0), (1, .ref (a + 0)), (2, .ref (b + 0)), (3, .ref o), (4, .int x4)]) hx0 hb dL_law_2426 hl (by decide) rfl (fun ls hl => ?_)
  refine lv_aload_n hx0 hb dL_law_2428 rfl (lv_at hl 4 rfl) ?_
  refine z_callM (As := []) (rest := []) C hE hWL hS (mX12_thrown q.2 (q.2 0 0) rfl) cwX12_thrown cvX12_thrown rfl mlL_132 ⟨by decide, by decide⟩ rfl hl.1 (Nat.le_of_ble_eq_true rfl) ⟨hcs.1, hcs.2⟩ dL_law_2429 rfl (fun H locs hWL hS => ?_)
  refine lv_iload hx0 hb dL_law_2432 (lv_at hl 1 rfl) ?_
  refine lv_icmp_eq (tgt := 2439) hx0 hb dL_law_2434 (by decide) (fun _ => ?_) (fun z => absurd ht z)
  refine lv_iload hx0 hb dL_law_2439 (lv_at hl 1 rfl) ?_
  refine lv_if_ne (tgt := 2456) hx0 hb dL_law_2441 (by decide) (fun _ => ?_) (fun z => ?_)
  · refine lv_goto (tgt := 2459) hx0 hb dL_law_2456 (by decide) ?_
    exact hend _ _ _ _ _ _ hrel hWL hS (lv_sub hl [2, 3, 4, 5, 6] rfl)
  obtain ⟨v9, e9⟩ : ∃ v, r.1 = .inr v := by
    rcases hk with ⟨v, e, _⟩ | ⟨_, e⟩
    · exact ⟨v, e⟩
    · rw [e] at z; exact absurd z (by decide)
  have e8 : ou r w = q.1.toInt64 := by unfold ou; rw [e9, hv v9 e9]
  refine lv_aload_n hx0 hb dL_law_2444 rfl (lv_at hl 5 rfl) ?_
  refine lv_iconst (v := (0 : Int32)) hx0 hb dL_law_2445 (by decide) ?_
  refine z_lald C hWL.2.2.1 dL_law_2446 ?_
  refine lv_iload hx0 hb dL_law_2447 (lv_at hl 0 rfl) ?_
  refine lv_i2l hx0 hb dL_law_2449 rfl ?_
  refine W.lcmp hx0 hb dL_law_2450 ?_
  rw [e8, lcmp0]
  refine lv_if_eq (tgt := 2456) hx0 hb dL_law_2451 (by decide) (fun _ => ?_) (fun z => absurd rfl z)
  refine lv_goto (tgt := 2459) hx0 hb dL_law_2456 (by decide) ?_
  exact hend _ _ _ _ _ _ hrel hWL hS (lv_sub hl [2, 3, 4, 5, 6] rfl)
