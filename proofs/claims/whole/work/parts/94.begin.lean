/-! THE LAW, from its entry -/
section RowsB
variable {p : Program} {l : Launch} {e : Env} {R : Room} {s : State} {m : MethodId} {args : Array Value} {below : List Frame} {meth : Method} {c : Code} {H : Heap} {locs : List Loc} {cells slots mc ms : Nat} {Q : State → Prop}
variable {E : Ev} {a : Nat} {cc : ByteArray} {nL : Nat} {own : String} {rt : Option FieldType} {pc index : Nat} {ls : Array Slot} {rest : List Value}
theorem b_new (C : Cx p l s m args meth c E cc nL own rt) (hS : va_S (An s) s.heap H locs) (hO2 : Od E H) (hz : H.size = a) {cp N : Nat} {Cn : String} {T : u_T} {ty : Nat → FieldType} (kc : KC cp Cn T N ty) (hcl : Cond.classLink own index Cn ∈ tb) (hin : Cond.instantiable Cn N ∈ tb) (hini : Cond.initialized Cn ∈ tb) {fp : List Value} (hfp : ∀ j, j < N → defaultValue (ty j) = vp_V fp j) (hc : cells + 1 ≤ R.cells ∧ slots + N ≤ R.slots) (hdg : decode cc pc = .ok (.new index, 3))
    (kk : ∀ H1 : Heap, va_at E.1 vwCl (a + 0, .inr (cp, fp)) H1 → H1.size = a + 1 → (∀ q, q < a → H1[q]? = H[q]?) → va_S (An s) s.heap H1 locs → Od E H1 → W p l e R s m args below meth c H1 locs (cells + 1) (slots + N) Q (F0 m (pc + 3) ls (.ref (a + 0) :: rest))) : W p l e R s m args below meth c H locs cells slots Q (F0 m pc ls rest) := by
  obtain ⟨hx, hb, hml, hown, hts, hlocks, hr, ⟨hK, hX⟩, hO⟩ := C
  obtain ⟨k1, k2, k3, k4⟩ := kc
  have hKn := hK.1 cp _ k1
  have z1 : H.size = a + 0 := hz
  refine W.newcK hx hb hown (hts _ hcl) (hts _ hin) (hts _ hini) rfl hdg hc.1 hc.2 hKn.2.1 z1 fun H1 kC hkC e1 y1 o1 => ?_
  have o2 : ∀ q, q < a → H1[q]? = H[q]? := fun q hq => o1 q hq
  have y2 : H1.size = a + 1 := y1
  refine kk H1 ⟨_, k1, (u_born ty hts k2 hKn hkC e1 k3).to hfp⟩ y2 o2 ⟨Nat.le_trans hS.1 (by omega), fun q h1 h2 => (o2 q (by have := hS.1; omega)).trans (hS.2.1 q h1 h2), hS.2.2⟩ ⟨Nat.le_trans hO2.1 (by omega), fun q hq => (o2 q (by have := hO2.1; omega)).trans (hO2.2 q hq)⟩
theorem b_ctor (C : Cx p l s m args meth c E cc nL own rt) (hao : va_AO "PageArchive$State" s) (hS : va_S (An s) s.heap H locs) (hO2 : Od E H) (ha : s.heap.size ≤ a) (hE : E.2.1.size ≤ a) {cp : Nat} {fp : List Value} (hat : va_at E.1 vwCl (a + 0, .inr (cp, fp)) H) (hz : H.size = a + 1) {n' : Nat} {P : Heap → Prop}
    {y : MethodName} {cb : ByteArray} {ml : Nat} {fr lo : Nat} (hM : Met l y (tw y cb ml none) { frames := fr, cells := mc, slots := ms, locals := lo } (va_Pc [.ref (a + 0)] (Pk l E a 0 cp fp)) (fun _ st o t => o = .returned none ∧ a + n' ≤ t.heap.size ∧ P t.heap ∧ ∀ q, q < a → t.heap[q]? = st.heap[q]?) mc ms (fun q => a + 0 ≤ q)) (cw : CW y cb ml none 0) (him : Cond.instanceMethod y ∈ tb) (hy : y.name = "<init>") (hlk : Cond.methodLink own index y ∈ tb) (hR : fr + 1 ≤ R.frames ∧ 8 + (ml + 11) + lo ≤ R.locals)
    (hls : ls.size = nL) (hsum : (rest.map fun v => v.category).sum ≤ 8) (hf : cells + mc ≤ R.cells ∧ slots + ms ≤ R.slots) (hn1 : 1 ≤ n') (hdg : decode cc pc = .ok (.invokespecial index, 3))
    (kk : ∀ (H1 : Heap) (locs1 : List Loc), a + n' ≤ H1.size → P H1 → (∀ q, q < a → H1[q]? = H[q]?) → va_S (An s) s.heap H1 locs1 → Od E H1 → W p l e R s m args below meth c H1 locs1 (cells + mc) (slots + ms) Q (F0 m (pc + 3) ls rest)) : W p l e R s m args below meth c H locs cells slots Q (F0 m pc ls (.ref (a + 0) :: rest)) := by
  obtain ⟨hx, hb, hml, hown, hts, hlocks, hr, ⟨hK, hX⟩, hO⟩ := C
  obtain ⟨w1, w2, w3, w4⟩ := cw
  have hrun := va_runI (p := p) (e := e) (below := below) (meth := meth) (H := H) (locs := locs) (cells := cells) (slots := slots) (As := []) (g := F0 m pc ls (.ref (a + 0) :: rest)) (rest := rest) ⟨hx, hb, hml, hown, hts⟩ hM (cwI 0 hts (tw_good w1) rfl rfl rfl (hts _ w2) (hts _ hlk) (hts _ him) hy ⟨w3.1, w3.2, w4⟩ hR) ⟨Pk.blind _, fun U hU hWm => ⟨rfl, Kn.warm hWm ⟨hK, hX⟩, by rw [hU]; exact hO2, hE, by rw [hU]; exact hz, by rw [hU]; exact hat, va_AO.moved hWm.alike hao⟩⟩ rfl rfl hls rfl (lv_room hsum) hdg hf
  intro Tt hT X
  obtain ⟨v, st₀, t, T', L', h0, X', hL, e1, e2, ⟨hv, hz2, hg, hk2⟩, stp⟩ := hrun Tt hT X
  cases hv
  rw [h0] at hk2
  have hfr : ∀ q, q < a → T'.heap[q]? = H[q]? := fun q hq => by rw [e1]; exact hk2 q hq
  have g1 : a + n' ≤ T'.heap.size := by rw [e1]; exact hz2
  have g3 : ∀ z ∈ locs ++ L', An s z.base := fun z hz => by
    rcases List.mem_append.mp hz with h | h
    · exact hS.2.2 z h
    · have h9 : a + 0 ≤ z.base := hL z h
      show s.heap.size ≤ z.base
      omega
  obtain ⟨t2, a1, b1⟩ := kk T'.heap (locs ++ L') g1 (by rw [e1]; exact hg) hfr ⟨by omega, fun q h1 h2 => (hfr q (by omega)).trans (hS.2.1 q h1 h2), g3⟩ ⟨by omega, fun q hq => (hfr q (by omega)).trans (hO2.2 q hq)⟩ T' rfl X'
  exact ⟨t2, stp t2 a1, b1⟩
end RowsB
theorem sims : Sims Rel := ⟨sim0, sim1, sim2, sim3, sim4, sim5, sim6, sim7, sim8, sim9, sim10, sim11, sim12, sim13, sim14, sim15, sim16, sim17, sim18, sim19, sim20, sim21, sim22, sim23, sim24, sim25, sim26, sim27, sim28, sim29, sim30, sim31, sim32, sim33, sim34, sim35, sim36, sim37, sim38, sim39, sim40, sim41, sim42, sim43, sim44, sim45, sim46, sim47⟩
set_option maxHeartbeats 4000000 in
set_option maxRecDepth 100000 in
theorem whole_start {p : Program} {e : Env} {s : State} {m : MethodId} {below : List Frame} {meth : Method} {c : Code} (l : Launch) (hflags : l.flags = flags0) {b L : Nat} {xs : Nat → Int32} (hL : L ≤ 3072) (C0 : lw_At p s m meth c b L xs) : W p l e room_1 s m #[Value.ref b] below meth c s.heap [] 0 0 (lw_Z below #[Value.ref b] s) (entryFrame m ([Value.ref b] : List Value).toArray 7) := by
  obtain ⟨hx, hb, hr, hml, hown, hts, hX, hbl, hlocks, hgv⟩ := id C0
  obtain ⟨E, hE, hKn, hNx, hao⟩ := env_at l hflags hts hgv
  have hO0 : Od E s.heap := ⟨by rw [hE]; exact Nat.le_refl _, fun q _ => by rw [hE]⟩
  have C : Cx p l s m #[Value.ref b] meth c E cL_law 7 RL (some .boolean) := ⟨hx, hb, hml, hown, fun w hw => hts w (tb_lw hw), hlocks, hr, hKn, hO0⟩
  have hE2 : E.2.1.size = s.heap.size := by rw [hE]
  have hl := lv_entry ([.ref b]) (n := 7) (Nat.le_of_ble_eq_true rfl)
  rw [lg_entry_eq]
  generalize (lg_sl ([.ref b]) ++ List.replicate (7 - (lg_sl ([.ref b])).length) Slot.unset).toArray = ls at hl ⊢
  have hl : lv_has ls 7 [(0, .ref b)] := hl
  obtain ⟨υ, hυ, hrel⟩ := st_rel
  refine b_new (a := s.heap.size) (cp := 11) (fp := [.null, .null, .null, .null, .null, .null, .null, .null, .null, .null, .null, .null, .null, .int 0, .null, .null]) C va_S.rf hO0 rfl kcX11 clL_8 inX11 iniX11 (fun j hj => by rcases (show j = 0 ∨ j = 1 ∨ j = 2 ∨ j = 3 ∨ j = 4 ∨ j = 5 ∨ j = 6 ∨ j = 7 ∨ j = 8 ∨ j = 9 ∨ j = 10 ∨ j = 11 ∨ j = 12 ∨ j = 13 ∨ j = 14 ∨ j = 15 by omega) with rfl | rfl | rfl | rfl | rfl | rfl | rfl | rfl | rfl | rfl | rfl | rfl | rfl | rfl | rfl | rfl <;> rfl) ⟨Nat.le_of_ble_eq_true rfl, Nat.le_of_ble_eq_true rfl⟩ dL_law_0 (fun H hat hz hfr hS hO => ?_)
  refine lv_dup hx hb dL_law_3 rfl ?_
  refine b_ctor (a := s.heap.size) (rest := [.ref (s.heap.size + 0)]) C hao hS hO (Nat.le_refl _) (by omega) hat hz (nX11 0 (by decide) st_σ st_add) cwX11_init imX11_init rfl mlL_122 ⟨Nat.le_of_ble_eq_true rfl, Nat.le_of_ble_eq_true rfl⟩ hl.1 (Nat.le_of_ble_eq_true rfl) ⟨Nat.le_of_ble_eq_true rfl, Nat.le_of_ble_eq_true rfl⟩ (by decide) dL_law_4 (fun H1 locs hz1 hW1 hfr1 hS1 hO1 => ?_)
  refine lv_astore_n (lv' := [(1, .ref (s.heap.size + 0)), (0, .ref b)]) hx hb dL_law_7 rfl hl (by decide) rfl (fun ls hl => ?_)
  refine b_new (a := H1.size) (cp := 12) (fp := [.int 0, .null, .null, .int 0, .int 0, .null, .null, .null, .null, .int 0, .int 0, .null, .int 0, .int 0, .int 0, .int 0, .null, .int 0, .null, .null, .int 0, .int 0, .null, .null, .null, .null, .int 0, .null, .null, .null]) C hS1 hO1 rfl kcX12 clL_123 inX12 iniX12 (fun j hj => by rcases (show j = 0 ∨ j = 1 ∨ j = 2 ∨ j = 3 ∨ j = 4 ∨ j = 5 ∨ j = 6 ∨ j = 7 ∨ j = 8 ∨ j = 9 ∨ j = 10 ∨ j = 11 ∨ j = 12 ∨ j = 13 ∨ j = 14 ∨ j = 15 ∨ j = 16 ∨ j = 17 ∨ j = 18 ∨ j = 19 ∨ j = 20 ∨ j = 21 ∨ j = 22 ∨ j = 23 ∨ j = 24 ∨ j = 25 ∨ j = 26 ∨ j = 27 ∨ j = 28 ∨ j = 29 by omega) with rfl | rfl | rfl | rfl | rfl | rfl | rfl | rfl | rfl | rfl | rfl | rfl | rfl | rfl | rfl | rfl | rfl | rfl | rfl | rfl | rfl | rfl | rfl | rfl | rfl | rfl | rfl | rfl | rfl | rfl <;> rfl) ⟨Nat.le_of_ble_eq_true rfl, Nat.le_of_ble_eq_true rfl⟩ dL_law_8 (fun H2 hat2 hz2 hfr2 hS2 hO2 => ?_)
  refine lv_dup hx hb dL_law_11 rfl ?_
  refine b_ctor (a := H1.size) (rest := [.ref (H1.size + 0)]) C hao hS2 hO2 (by omega) (by omega) hat2 hz2 (nX12 υ hυ) cwX12_init imX12_init rfl mlL_125 ⟨Nat.le_of_ble_eq_true rfl, Nat.le_of_ble_eq_true rfl⟩ hl.1 (Nat.le_of_ble_eq_true rfl) ⟨Nat.le_of_ble_eq_true rfl, Nat.le_of_ble_eq_true rfl⟩ (by decide) dL_law_12 (fun H3 locs3 hz3 hW3 hfr3 hS3 hO3 => ?_)
  refine lv_astore_n (lv' := [(2, .ref (H1.size + 0)), (1, .ref (s.heap.size + 0)), (0, .ref b)]) hx hb dL_law_15 rfl hl (by decide) rfl (fun ls hl => ?_)
  refine lv_iconst (v := (1 : Int32)) hx hb dL_law_16 (by decide) ?_
  refine va_newaK (atype := .long) (N := 1) (h := H3.size) hx hb (hts _ (tb_lw ac_long)) rfl dL_law_17 rfl (by decide) (by decide) (Nat.le_of_ble_eq_true rfl) (Nat.le_of_ble_eq_true rfl) (Nat.le_of_ble_eq_true rfl) rfl fun H4 cA e4 y4 o4 hAr hNm => ?_
  have hra : s.vm.findClass ("[" ++ FieldType.long.toString) = some (E.2.2.2.2 4) := (hKn.1.2 4 _ rfl).2
  have hcA : cA = E.2.2.2.2 4 := Option.some.inj (hNm.symm.trans hra)
  have hOw : Ow E H3.size 0 H4 := ⟨fun _ => 0, rfl, by show H4[H3.size]? = some (vp_cell _ _); rw [e4, hcA, vp_cell_l]; rfl⟩
  have hS4 : va_S (An s) s.heap H4 locs3 := ⟨Nat.le_trans hS3.1 (by omega), fun q h1 h2 => (o4 q (by have := hS3.1; omega)).trans (hS3.2.1 q h1 h2), hS3.2.2⟩
  have hO4 : Od E H4 := ⟨Nat.le_trans hO3.1 (by omega), fun q hq => (o4 q (by have := hO3.1; omega)).trans (hO3.2 q hq)⟩
  have hWC : Wd E (LC E s.heap.size) st_σ H4 := ((hW1.keep (fun q h1 _ _ => hfr2 q h1)).keep (fun q h1 h2 h3 => hfr3 q (by have h3 : q < s.heap.size + 384 := h3; omega))).keep (fun q h1 _ _ => o4 q h1)
  have hWM : Wd E (LM E H1.size) υ H4 := hW3.keep (fun q h1 _ _ => o4 q h1)
  refine lv_astore_n (lv' := [(3, .ref H3.size), (2, .ref (H1.size + 0)), (1, .ref (s.heap.size + 0)), (0, .ref b)]) hx hb dL_law_19 rfl hl (by decide) rfl (fun ls hl => ?_)
  refine lv_iconst (v := (0 : Int32)) hx hb dL_law_20 (by decide) ?_
  refine lv_istore (lv' := [(4, .int 0), (3, .ref H3.size), (2, .ref (H1.size + 0)), (1, .ref (s.heap.size + 0)), (0, .ref b)]) hx hb dL_law_21 hl (by decide) rfl (fun ls hl => ?_)
  refine W.widen (k := 500 + 4 * 0) (n := 20000 + 24 * 0) (by omega) (by omega) ?_
  exact law_loop (a := s.heap.size) (b := H1.size) (o := H3.size) sims C hNx hE hX hbl hL (L + 1) 0 st_σ υ 0 H4 locs3 ls (by omega) (by omega) hrel ⟨hWC, hWM, hOw, hO4, hz1, hz3⟩ hS4 (lv_sub hl [4, 3, 2, 1, 0] rfl)
