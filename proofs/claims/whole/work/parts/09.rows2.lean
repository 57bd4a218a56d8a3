/-! MORE ROWS: nest mates, Math, arraycopy, the ring, texts -/
theorem jmax : yJ9_max_7cf53 = Lib.Math.max.name := rfl
theorem jmin : yJ9_min_7cf53 = Lib.Math.min.name := rfl
theorem jcpy : (⟨"java/lang/System", "arraycopy", "(Ljava/lang/Object;ILjava/lang/Object;II)V"⟩ : MethodName) = arraycopyName := rfl
section RowsD
variable {p : Program} {l : Launch} {e : Env} {R : Room} {s : State} {m : MethodId} {args : Array Value} {below : List Frame} {meth : Method} {c : Code} {H : Heap} {locs : List Loc} {cells slots : Nat} {Q : State → Prop}
variable {E : Ev} {L : Lay} {σ : Mem} {cc : ByteArray} {nL : Nat} {own : String} {rt : Option FieldType} {pc : Nat} {ls : Array Slot} {rest : List Value}
/-- a call of a nest mate's private static method -/
theorem w_callSN (C : Cx p l s m args meth c E cc nL own rt) (hW : Wd E L σ H) (hS : va_S (La L) s.heap H locs)
    {y : MethodName} {cb : ByteArray} {ml n : Nat} {ry : Option FieldType} {fr lo : Nat} {As : List Value} {rv : Option Value} {σ' : Mem} (hM : Met l y (tw y cb ml ry) { frames := fr, cells := 0, slots := 0, locals := lo } (va_Pc As (Pr l E L σ)) (Qz E L rv σ') 0 0 (La L)) (cw : CW y cb ml ry n) (cs : Cond.static y ∈ tb) {index : Nat} {host : String} (hlk : Cond.methodLinkNest own index y host ∈ lw_tbl) (hR : fr + 1 ≤ R.frames ∧ 8 + (ml + 11) + lo ≤ R.locals)
    (hn : As.length = n) (hls : ls.size = nL) (hsum : (rest.map fun v => v.category).sum ≤ 8) (hf : cells ≤ R.cells ∧ slots ≤ R.slots) (hdg : decode cc pc = .ok (.invokestatic index, 3)) {st : List Value} (hst : st = As.reverse ++ rest)
    (kk : ∀ (H1 : Heap) (locs1 : List Loc), Wd E L σ' H1 → va_S (La L) s.heap H1 locs1 → W p l e R s m args below meth c H1 locs1 cells slots Q (F0 m (pc + 3) ls (rv.toList ++ rest))) : W p l e R s m args below meth c H locs cells slots Q (F0 m pc ls st) := by
  obtain ⟨hx, hb, hml, hown, hts, hlocks, hr, ⟨hK, hX⟩, hO⟩ := C
  obtain ⟨w1, w2, w3, w4⟩ := cw
  have hO2 : Od E H := hO.go hW.2 hS
  have cb0 := va_cnB (R := R) (rm := { frames := fr, cells := 0, slots := 0, locals := lo }) (mc := 0) (ms := 0) n hts (tw_good w1) rfl rfl rfl (hX.1.1 _ hlk rfl) (hts _ w2) ⟨w3.1, w3.2, w4⟩ hR
  have hrun := va_runSN (p := p) (e := e) (below := below) (meth := meth) (H := H) (locs := locs) (cells := cells) (slots := slots) (g := F0 m pc ls st) (rest := rest) ⟨hx, hb, hml, hown, hts⟩ hM ⟨cb0, hts _ cs, trivial⟩ ⟨Pr.blind _, fun U hU hWm => ⟨rfl, Kn.warm hWm ⟨hK, hX⟩, by rw [hU]; exact hW, by rw [hU]; exact hO2⟩⟩ rfl hn hls hst (lv_room hsum) hdg hf
  intro Tt hT X
  obtain ⟨v, st₀, t, T', L', h0, X', hL, e1, e2, ⟨hv, hw, hz, hk2⟩, stp⟩ := hrun Tt hT X
  cases hv
  rw [h0] at hz hk2
  obtain ⟨t2, a1, b1⟩ := kk T'.heap (locs ++ L') (by rw [e1]; exact hw) ⟨Nat.le_trans hS.1 (by rw [e1]; exact hz), fun q h1 h2 => by rw [e1, hk2 q (Nat.lt_of_lt_of_le h1 hS.1) h2]; exact hS.2.1 q h1 h2, fun q hq => by
      rcases List.mem_append.mp hq with h | h
      · exact hS.2.2 q h
      · exact hL q h⟩ T' rfl X'
  exact ⟨t2, stp t2 a1, b1⟩
theorem w_mmax (C : Cx p l s m args meth c E cc nL own rt) (hls : ls.size = nL) {index : Nat} (hlk : Cond.methodLink own index yJ9_max_7cf53 ∈ tb) {x y : Int32} (hR : 1 ≤ R.frames ∧ (rest.map fun v => v.category).sum + 13 ≤ R.locals) (hf : cells ≤ R.cells ∧ slots ≤ R.slots) (hdg : decode cc pc = .ok (.invokestatic index, 3))
    (kk : W p l e R s m args below meth c H locs cells slots Q (F0 m (pc + 3) ls (.int (if x < y then y else x) :: rest))) : W p l e R s m args below meth c H locs cells slots Q (F0 m pc ls (.int y :: .int x :: rest)) := by
  obtain ⟨hx, hb, hml, hown, hts, hlocks, hr, ⟨hK, hX⟩, hO⟩ := C
  exact va_mmax hx hb (hml.trans hls.symm) hown (hts _ (jmax ▸ hlk)) (hts _ (jmax ▸ csJ9_max_7cf53)) (hts _ iniJ9) (hts _ (jmax ▸ cwJ9_max_7cf53.1)) hR.1 hR.2 hf.1 hf.2 hdg kk
theorem w_mmin (C : Cx p l s m args meth c E cc nL own rt) (hls : ls.size = nL) {index : Nat} (hlk : Cond.methodLink own index yJ9_min_7cf53 ∈ tb) {x y : Int32} (hR : 1 ≤ R.frames ∧ (rest.map fun v => v.category).sum + 13 ≤ R.locals) (hf : cells ≤ R.cells ∧ slots ≤ R.slots) (hdg : decode cc pc = .ok (.invokestatic index, 3))
    (kk : W p l e R s m args below meth c H locs cells slots Q (F0 m (pc + 3) ls (.int (if y < x then y else x) :: rest))) : W p l e R s m args below meth c H locs cells slots Q (F0 m pc ls (.int y :: .int x :: rest)) := by
  obtain ⟨hx, hb, hml, hown, hts, hlocks, hr, ⟨hK, hX⟩, hO⟩ := C
  exact va_mmin hx hb (hml.trans hls.symm) hown (hts _ (jmin ▸ hlk)) (hts _ (jmin ▸ csJ9_min_7cf53)) (hts _ iniJ9) (hts _ (jmin ▸ cwJ9_min_7cf53.1)) hR.1 hR.2 hf.1 hf.2 hdg kk
end RowsD
/-- an array's first numbers come out of another one -/
def cpy (σ : Mem) (d a n : Nat) : Mem := fun k => if k = d then va_cpy (σ a) (σ d) 0 0 n else σ k
theorem cpy_at (σ : Mem) (d a n : Nat) : cpy σ d a n d = va_cpy (σ a) (σ d) 0 0 n := by simp [cpy]
theorem cpy_ne (σ : Mem) {d k : Nat} (a n : Nat) (h : k ≠ d) : cpy σ d a n k = σ k := by simp [cpy, h]
section RowsE
variable {p : Program} {l : Launch} {e : Env} {R : Room} {s : State} {m : MethodId} {args : Array Value} {below : List Frame} {meth : Method} {c : Code} {H : Heap} {locs : List Loc} {cells slots : Nat} {Q : State → Prop}
variable {E : Ev} {b : Nat} {σ : Mem} {cc : ByteArray} {nL : Nat} {own : String} {rt : Option FieldType} {pc index k d : Nat} {ls : Array Slot} {rest : List Value}
theorem cpA (C : Cx p l s m args meth c E cc nL own rt) (hls : ls.size = nL) (hW : Wd E (LC E b) σ H) (hS : va_S (La (LC E b)) s.heap H locs) (h : 100 ≤ kd k) (h' : 100 ≤ kd d) (hlk : Cond.methodLink own index ⟨"java/lang/System", "arraycopy", "(Ljava/lang/Object;ILjava/lang/Object;II)V"⟩ ∈ tb) {n : Int32} (hn : ¬ (n < 0 ∨ ln k < n.toNatClampNeg ∨ ln d < n.toNatClampNeg)) (hR : 1 ≤ R.frames ∧ (rest.map fun v => v.category).sum + (nativeFrameWords "java/lang/System" "arraycopy" 5 + 11) ≤ R.locals) (hdg : decode cc pc = .ok (.invokestatic index, 3))
    (kk : ∀ (H1 : Heap) (locs1 : List Loc), Wd E (LC E b) (cpy σ d k n.toNatClampNeg) H1 → va_S (La (LC E b)) s.heap H1 locs1 → W p l e R s m args below meth c H1 locs1 cells slots Q (F0 m (pc + 3) ls rest)) : W p l e R s m args below meth c H locs cells slots Q (F0 m pc ls (.int n :: .int 0 :: .ref (b + d) :: .int 0 :: .ref (b + k) :: rest)) := by
  obtain ⟨hx, hb, hml, hown, hts, hlocks, hr, ⟨hK, hX⟩, hO⟩ := C
  have hn1 : ¬ n < 0 := fun z => hn (Or.inl z)
  have hn2 : n.toNatClampNeg ≤ ln k := Nat.not_lt.mp fun z => hn (Or.inr (Or.inl z))
  have hn3 : n.toNatClampNeg ≤ ln d := Nat.not_lt.mp fun z => hn (Or.inr (Or.inr z))
  refine va_copyi (D := E.1) (cl := vwCl) (ws := wl (LC E b) σ) (A := La (LC E b)) (H0 := s.heap) hx hb (hml.trans hls.symm) hown (hts _ (jcpy ▸ hlk)) (hts _ natCpy) (hts _ stCpy) (hts _ iniJ10) hK hW.1 (wl_D _ σ) hS k d 0 0 (by rw [wl_at (kdge h), ccA h]) (by rw [wl_at (kdge h'), ccA h']) rfl rfl rfl (by decide) (by decide) hn1 (by simpa using hn2) (by simpa using hn3) (fun _ _ => rfl) hR.1 hR.2 hdg (fun H1 locs1 hP1 hD1 hS1 => ?_)
  have e1 : (LC E b).2.2 (cpy σ d k n.toNatClampNeg) d = .inl (E.2.2.2.2 0, ln d, .inl (va_cpy (σ k) (σ d) (0 : Int32).toNatClampNeg (0 : Int32).toNatClampNeg n.toNatClampNeg)) := by rw [ccA h', cpy_at]; rfl
  rw [← e1] at hP1
  rw [wl_set (L := LC E b) (kdge h') (fun k2 h2 => ccN (cpy_ne σ _ _ h2))] at hP1
  exact kk H1 locs1 ⟨hP1, hW.2⟩ hS1
theorem chG {k i : Nat} (h : kd k = 99) (hi : i < 8) : kd (k + (1 + 31 * i)) = 7 := by
  have h1 := kdall (n := 99) (by decide) (fun k => (List.range 8).all (fun i => kd (k + (1 + 31 * i)) == 7)) (by decide +kernel) k h
  exact of_decide_eq_true (List.all_eq_true.mp h1 i (List.mem_range.mpr hi))
theorem alG (C : Cx p l s m args meth c E cc nL own rt) (hW : Wd E (LC E b) σ H) (h : kd k = 99) (hdg : decode cc pc = .ok (.arraylength, 1)) (kk : W p l e R s m args below meth c H locs cells slots Q (F0 m (pc + 1) ls (.int (8 : Int32) :: rest))) : W p l e R s m args below meth c H locs cells slots Q (F0 m pc ls (.ref (b + k) :: rest)) := by
  obtain ⟨hx, hb, hml, hown, hts, hlocks, hr, ⟨hK, hX⟩, hO⟩ := C
  exact va_alen (D := E.1) (cl := vwCl) (ws := wl (LC E b) σ) hx hb hK hW.1 k 3 (by rw [wl_at (kdlt h (by decide)), cc99 h]) rfl rfl hdg kk
theorem ldG (C : Cx p l s m args meth c E cc nL own rt) (hW : Wd E (LC E b) σ H) (h : kd k = 99) {i : Int32} (hin : ¬ (i < 0 ∨ 8 ≤ i.toNatClampNeg)) (hdg : decode cc pc = .ok (.aaload, 1)) (kk : W p l e R s m args below meth c H locs cells slots Q (F0 m (pc + 1) ls (.ref (b + (k + (1 + 31 * i.toNatClampNeg))) :: rest))) : W p l e R s m args below meth c H locs cells slots Q (F0 m pc ls (.int i :: .ref (b + k) :: rest)) := by
  obtain ⟨hx, hb, hml, hown, hts, hlocks, hr, ⟨hK, hX⟩, hO⟩ := C
  exact va_aldq (D := E.1) (cl := vwCl) (ws := wl (LC E b) σ) (f := fun i => some (b + (k + (1 + 31 * i)))) hx hb hK hW.1 k 3 (by rw [wl_at (kdlt h (by decide)), cc99 h]) rfl hin hdg kk
theorem w_aret {cn : String} (C : Cx p l s m args meth c E cc nL own (some (.object cn))) (hW : Wd E (LC E b) σ H) (hS : va_S (La (LC E b)) s.heap H locs) {v : Nat} (hdg : decode cc pc = .ok (.areturn, 1)) : W p l e R s m args below meth c H locs cells slots (MQ below (Qz E (LC E b) (some (.ref (b + v))) σ) args s cells slots (La (LC E b))) (F0 m pc ls [.ref (b + v)]) := by
  obtain ⟨hx, hb, hml, hown, hts, hlocks, hr, ⟨hK, hX⟩, hO⟩ := C
  exact W.aret hx hb hr (Or.inl ⟨_, rfl⟩) (Or.inr ⟨_, rfl⟩) (fun t ht hW2 => ⟨rfl, by rw [ht]; exact hW, hS.F ht⟩) hS.2.2 hdg
/-- a text of the class's pool -/
theorem w_ldcS (C : Cx p l s m args meth c E cc nL own rt) (i : Nat) {tx : String} (hi : strL[i]? = some (own, index, tx)) (hdg : decode cc pc = .ok (.ldc index, 2)) (kk : W p l e R s m args below meth c H locs cells slots Q (F0 m (pc + 2) ls (.ref (E.2.2.1 i) :: rest))) : W p l e R s m args below meth c H locs cells slots Q (F0 m pc ls rest) := by
  obtain ⟨hx, hb, hml, hown, hts, hlocks, hr, ⟨hK, hX⟩, hO⟩ := C
  exact va_ldcS hx hb hown (hX.2.2.2.2.2.1 i _ hi) hdg kk
end RowsE
def FU : Nat := 4096
theorem tab3 {x : Int32} (h0 : ¬ x = 0) (h1 : ¬ x = 1) (h2 : ¬ x = 2) : x.toInt < 0 ∨ 2 < x.toInt := by
  rcases Int.lt_or_le x.toInt 0 with q | q
  · exact Or.inl q
  · refine Or.inr ?_
    have e0 : x.toInt ≠ 0 := fun z => h0 (Int32.toInt_inj.mp z)
    have e1 : x.toInt ≠ 1 := fun z => h1 (Int32.toInt_inj.mp z)
    have e2 : x.toInt ≠ 2 := fun z => h2 (Int32.toInt_inj.mp z)
    omega
theorem tab4 {x : Int32} (h0 : ¬ x = 0) (h1 : ¬ x = 1) (h2 : ¬ x = 2) (h3 : ¬ x = 3) : x.toInt < 0 ∨ 3 < x.toInt := by
  rcases tab3 h0 h1 h2 with q | q
  · exact Or.inl q
  · have e3 : x.toInt ≠ 3 := fun z => h3 (Int32.toInt_inj.mp z)
    exact Or.inr (by omega)
theorem tab5 {x : Int32} (h0 : ¬ x = 0) (h1 : ¬ x = 1) (h2 : ¬ x = 2) (h3 : ¬ x = 3) (h4 : ¬ x = 4) : x.toInt < 0 ∨ 4 < x.toInt := by
  rcases tab4 h0 h1 h2 h3 with q | q
  · exact Or.inl q
  · have e3 : x.toInt ≠ 4 := fun z => h4 (Int32.toInt_inj.mp z)
    exact Or.inr (by omega)
theorem tab6 {x : Int32} (h0 : ¬ x = 0) (h1 : ¬ x = 1) (h2 : ¬ x = 2) (h3 : ¬ x = 3) (h4 : ¬ x = 4) (h5 : ¬ x = 5) : x.toInt < 0 ∨ 5 < x.toInt := by
  rcases tab5 h0 h1 h2 h3 h4 with q | q
  · exact Or.inl q
  · have e3 : x.toInt ≠ 5 := fun z => h5 (Int32.toInt_inj.mp z)
    exact Or.inr (by omega)
