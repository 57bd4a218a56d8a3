/-! THE SURROUNDINGS AT THE LAW'S ENTRY -/
abbrev vF : List Cond := flatC (Cond.and given_1 narrow_1)
theorem env_c {s : State} {args : Array Value} (hts : ∀ w ∈ tb, w.before args s = true) : ∃ D : va_G, ∀ (c : Nat) (q : vw_C), vwCl[c]? = some q → u_Kn s q.1 q.2.1 q.2.2 (D.1 c) (D.2 c) := by
  have h0 : ∀ c : Nat, ∃ z : ClassId × (Nat → Nat), ∀ q : vw_C, vwCl[c]? = some q → u_Kn s q.1 q.2.1 q.2.2 z.1 z.2 := by
    intro c
    match c with
    | 0 =>
      obtain ⟨a, b, h⟩ := u_known (n := 3) hts kcX0.2.1 (hts _ inX0)
      exact ⟨(a, b), fun q hq => by cases hq; exact h⟩
    | 1 =>
      obtain ⟨a, b, h⟩ := u_known (n := 5) hts kcX1.2.1 (hts _ inX1)
      exact ⟨(a, b), fun q hq => by cases hq; exact h⟩
    | 2 =>
      obtain ⟨a, b, h⟩ := u_known (n := 7) hts kcX2.2.1 (hts _ inX2)
      exact ⟨(a, b), fun q hq => by cases hq; exact h⟩
    | 3 =>
      obtain ⟨a, b, h⟩ := u_known (n := 1) hts kcX3.2.1 (hts _ inX3)
      exact ⟨(a, b), fun q hq => by cases hq; exact h⟩
    | 4 =>
      obtain ⟨a, b, h⟩ := u_known (n := 6) hts kcX4.2.1 (hts _ inX4)
      exact ⟨(a, b), fun q hq => by cases hq; exact h⟩
    | 5 =>
      obtain ⟨a, b, h⟩ := u_known (n := 4) hts kcX5.2.1 (hts _ inX5)
      exact ⟨(a, b), fun q hq => by cases hq; exact h⟩
    | 6 =>
      obtain ⟨a, b, h⟩ := u_known (n := 6) hts kcX6.2.1 (hts _ inX6)
      exact ⟨(a, b), fun q hq => by cases hq; exact h⟩
    | 7 =>
      obtain ⟨a, b, h⟩ := u_known (n := 4) hts kcX7.2.1 (hts _ inX7)
      exact ⟨(a, b), fun q hq => by cases hq; exact h⟩
    | 8 =>
      obtain ⟨a, b, h⟩ := u_known (n := 2) hts kcX8.2.1 (hts _ inX8)
      exact ⟨(a, b), fun q hq => by cases hq; exact h⟩
    | 9 =>
      obtain ⟨a, b, h⟩ := u_known (n := 3) hts kcX9.2.1 (hts _ inX9)
      exact ⟨(a, b), fun q hq => by cases hq; exact h⟩
    | 10 =>
      obtain ⟨a, b, h⟩ := u_known (n := 8) hts kcX10.2.1 (hts _ inX10)
      exact ⟨(a, b), fun q hq => by cases hq; exact h⟩
    | 11 =>
      obtain ⟨a, b, h⟩ := u_known (n := 16) hts kcX11.2.1 (hts _ inX11)
      exact ⟨(a, b), fun q hq => by cases hq; exact h⟩
    | 12 =>
      obtain ⟨a, b, h⟩ := u_known (n := 30) hts kcX12.2.1 (hts _ inX12)
      exact ⟨(a, b), fun q hq => by cases hq; exact h⟩
    | c + 13 => exact ⟨(0, fun _ => 0), fun q hq => by simp [vwCl] at hq⟩
  obtain ⟨f, hf⟩ := Classical.axiomOfChoice h0
  exact ⟨(fun c => (f c).1, fun c => (f c).2), fun c q hq => hf c q hq⟩
theorem env_a {s : State} {args : Array Value} {ty : FieldType} (h : (Cond.arrayClass ty).before args s = true) : ∃ cA : ClassId, ArrOfT s cA ty ∧ s.vm.findClass ("[" ++ ty.toString) = some cA := by
  obtain ⟨cA, kA, comp, h1, h2, h3⟩ := Cond.arrayClass_spec h
  exact ⟨cA, fun n z => ⟨fun k h => (by cases h), kA, h2, comp, h3⟩, h1⟩
theorem env_o {s : State} {args : Array Value} {C : String} (h : (Cond.arrayOver (.object C)).before args s = true) : ∃ cA : ClassId, ArrOfT s cA (.object C) ∧ va_RA s cA (.object C) := by
  obtain ⟨comp, cA, kA, g1, g2, g3, g4, g5⟩ := Cond.arrayOver_spec h
  exact ⟨cA, fun n z => ⟨fun k h => (by cases h), kA, g3, comp, g4⟩, kA, comp, g3, g4, g1, g5⟩
theorem env_ao : Cond.arrayOver (.object "PageArchive$State") ∈ lw_tbl := by decide +kernel
theorem env_sr : ∀ q ∈ strL, Cond.stringRef q.1 q.2.1 q.2.2 ∈ lw_tbl := by decide +kernel
theorem env_ex : ∀ q ∈ strL, Cond.exactly (.string q.1 q.2.1) "java/lang/String" ∈ vF := by decide +kernel
def stT (i : Nat) : Term := match strL[i]? with
  | some q => .string q.1 q.2.1
  | none => .int 0
abbrev vlT (t : Term) : Term := .field t "java/lang/String" "value" "[B"
def wS (t : Term) (bs : List Int32) : List Cond := Cond.exactly t "java/lang/String" :: Cond.eq (.field t "java/lang/String" "coder" "B") (.int 0) :: Cond.arrayOf (vlT t) .byte :: Cond.eq (.length (vlT t)) (.int (Int32.ofNat bs.length)) :: (List.range bs.length).map fun j => Cond.eq (.elem (vlT t) (.int (Int32.ofNat j))) (.int (bs.getD j 0))
theorem ew_of {ws : List Cond} {a n : Nat} (h : ws = (vF.drop a).take n) : ∀ w ∈ ws, w ∈ vF := fun w hw => by
  rw [h] at hw
  exact List.mem_of_mem_drop (List.mem_of_mem_take hw)
theorem ew_0 : ∀ w ∈ wS (stT 0) (bytL.getD 0 []), w ∈ vF := ew_of (a := 75) (n := 9) (by decide +kernel)
theorem ew_1 : ∀ w ∈ wS (stT 1) (bytL.getD 1 []), w ∈ vF := ew_of (a := 84) (n := 11) (by decide +kernel)
theorem ew_2 : ∀ w ∈ wS (stT 2) (bytL.getD 2 []), w ∈ vF := ew_of (a := 95) (n := 8) (by decide +kernel)
theorem ew_3 : ∀ w ∈ wS (stT 3) (bytL.getD 3 []), w ∈ vF := ew_of (a := 103) (n := 9) (by decide +kernel)
theorem ew_4 : ∀ w ∈ wS (stT 4) (bytL.getD 4 []), w ∈ vF := ew_of (a := 112) (n := 9) (by decide +kernel)
theorem ew_5 : ∀ w ∈ wS (stT 5) (bytL.getD 5 []), w ∈ vF := ew_of (a := 121) (n := 9) (by decide +kernel)
theorem ew_6 : ∀ w ∈ wS (stT 6) (bytL.getD 6 []), w ∈ vF := ew_of (a := 130) (n := 9) (by decide +kernel)
theorem ew_7 : ∀ w ∈ wS (stT 7) (bytL.getD 7 []), w ∈ vF := ew_of (a := 139) (n := 8) (by decide +kernel)
theorem ew_8 : ∀ w ∈ wS (stT 8) (bytL.getD 8 []), w ∈ vF := ew_of (a := 147) (n := 9) (by decide +kernel)
theorem ew_9 : ∀ w ∈ wS (stT 9) (bytL.getD 9 []), w ∈ vF := ew_of (a := 156) (n := 8) (by decide +kernel)
theorem ew_10 : ∀ w ∈ wS (stT 10) (bytL.getD 10 []), w ∈ vF := ew_of (a := 1084) (n := 9) (by decide +kernel)
theorem ew_11 : ∀ w ∈ wS (stT 11) (bytL.getD 11 []), w ∈ vF := ew_of (a := 1094) (n := 11) (by decide +kernel)
theorem ew_12 : ∀ w ∈ wS (stT 12) (bytL.getD 12 []), w ∈ vF := ew_of (a := 1106) (n := 8) (by decide +kernel)
theorem ew_13 : ∀ w ∈ wS (stT 13) (bytL.getD 13 []), w ∈ vF := ew_of (a := 1115) (n := 9) (by decide +kernel)
theorem ew_14 : ∀ w ∈ wS (stT 14) (bytL.getD 14 []), w ∈ vF := ew_of (a := 1125) (n := 9) (by decide +kernel)
theorem ew_15 : ∀ w ∈ wS (stT 15) (bytL.getD 15 []), w ∈ vF := ew_of (a := 1135) (n := 9) (by decide +kernel)
theorem ew_16 : ∀ w ∈ wS (stT 16) (bytL.getD 16 []), w ∈ vF := ew_of (a := 1145) (n := 9) (by decide +kernel)
theorem ew_17 : ∀ w ∈ wS (stT 17) (bytL.getD 17 []), w ∈ vF := ew_of (a := 1155) (n := 8) (by decide +kernel)
theorem ew_18 : ∀ w ∈ wS (stT 18) (bytL.getD 18 []), w ∈ vF := ew_of (a := 1164) (n := 9) (by decide +kernel)
theorem ew_19 : ∀ w ∈ wS (stT 19) (bytL.getD 19 []), w ∈ vF := ew_of (a := 1174) (n := 8) (by decide +kernel)
theorem ew_20 : ∀ w ∈ wS (stT 20) (bytL.getD 20 []), w ∈ vF := ew_of (a := 1183) (n := 30) (by decide +kernel)
theorem env_w : ∀ i, i < 21 → ∀ w ∈ wS (stT i) (bytL.getD i []), w ∈ vF
  | 0, _ => ew_0
  | 1, _ => ew_1
  | 2, _ => ew_2
  | 3, _ => ew_3
  | 4, _ => ew_4
  | 5, _ => ew_5
  | 6, _ => ew_6
  | 7, _ => ew_7
  | 8, _ => ew_8
  | 9, _ => ew_9
  | 10, _ => ew_10
  | 11, _ => ew_11
  | 12, _ => ew_12
  | 13, _ => ew_13
  | 14, _ => ew_14
  | 15, _ => ew_15
  | 16, _ => ew_16
  | 17, _ => ew_17
  | 18, _ => ew_18
  | 19, _ => ew_19
  | 20, _ => ew_20
  | k + 21, h => absurd h (by omega)
theorem env_len : ∀ i, i < 21 → (bytL.getD i []).length < 100 := by decide +kernel
theorem env_t {s : State} {args : Array Value} (hs : ∀ w ∈ vF, w.before args s = true) {A : Nat → Prop} (hA : ∀ a : Nat, a < s.heap.size → ¬ A a) (i : Nat) : ∃ q : Nat × Nat, (∀ z, strL[i]? = some z → (stT i).eval args s none [] s = some (.ref q.1)) ∧ ∀ bs, bytL[i]? = some bs → va_O "java/lang/String" q.1 A s s.heap ∧ va_OF "java/lang/String" "coder" "B" (.int 0) q.1 A s s.heap ∧ va_OF "java/lang/String" "value" "[B" (.ref q.2) q.1 A s s.heap ∧ va_T .byte q.2 bs.length (fun j => .int (bs.getD j 0)) A s s.heap := by
  by_cases hi : i < 21
  · have hw := env_w i hi
    have hlen := env_len i hi
    obtain ⟨a, c, cA, kA, q1, q2, q3, q4, q5, q6, -⟩ := Cond.exactly_spec (args := args) (first := s) (o := none) (s := s) (idx := []) (t := stT i) (cls := "java/lang/String") (hs _ (hw _ (List.mem_cons_self)))
    obtain ⟨t, ht, hT⟩ := va_Tof (f := fun j => .int ((bytL.getD i []).getD j 0)) (A := A) (N := (bytL.getD i []).length) (by omega) (hs _ (hw _ (List.mem_cons_of_mem _ (List.mem_cons_of_mem _ List.mem_cons_self)))) (va_eqt (hs _ (hw _ (List.mem_cons_of_mem _ (List.mem_cons_of_mem _ (List.mem_cons_of_mem _ List.mem_cons_self)))))) (fun j hj => va_eqt (hs _ (hw _ (List.mem_cons_of_mem _ (List.mem_cons_of_mem _ (List.mem_cons_of_mem _ (List.mem_cons_of_mem _ (List.mem_map.mpr ⟨j, List.mem_range.mpr hj, rfl⟩)))))))) hA
    refine ⟨(a, t), fun _ _ => q1, fun bs hbs => ?_⟩
    have e : bytL.getD i [] = bs := by rw [List.getD_eq_getElem?_getD, hbs]; rfl
    rw [e] at hT
    exact ⟨⟨cA, q3, q5, by rw [q6]; exact q2, hA a (Array.getElem?_eq_some_iff.mp q3).1⟩, vk_OFof q1 (va_eqt (hs _ (hw _ (List.mem_cons_of_mem _ List.mem_cons_self)))) hA, vk_OFof q1 ht hA, hT⟩
  · have hb : bytL[i]? = none := List.getElem?_eq_none (by show 21 ≤ i; omega)
    cases hz : strL[i]? with
    | none => exact ⟨(0, 0), (fun z h => by cases h), (fun bs h => by rw [hb] at h; cases h)⟩
    | some z =>
      obtain ⟨a, c, cA, kA, q1, -⟩ := Cond.exactly_spec (args := args) (first := s) (o := none) (s := s) (idx := []) (t := .string z.1 z.2.1) (cls := "java/lang/String") (hs _ (env_ex z (List.mem_of_getElem? hz)))
      refine ⟨(a, 0), fun z' h => ?_, fun bs h => by rw [hb] at h; cases h⟩
      unfold stT
      rw [hz]
      exact q1
theorem env_nx : ∀ i, i < 4 → ∀ j, j < 4 → i ≠ j → Cond.not (.castable (exn i) (exn j)) ∈ vF := by decide +kernel
theorem env_1 : Cond.laysStatic "jdk/internal/util/Preconditions" "SIOOBE_FORMATTER" "Ljava/util/function/BiFunction;" ∈ lw_tbl := by decide +kernel
theorem env_2 : Cond.initialized "jdk/internal/util/Preconditions" ∈ lw_tbl := by decide +kernel
theorem env_3 : Cond.isRef (.static "jdk/internal/util/Preconditions" "SIOOBE_FORMATTER" "Ljava/util/function/BiFunction;") ∈ vF := by decide +kernel
theorem env_4 : Cond.laysStatic Bundle.tN "UNASSIGNED_STACK" Bundle.steD ∈ lw_tbl := by decide +kernel
theorem env_5 : Cond.initialized Bundle.tN ∈ lw_tbl := by decide +kernel
theorem env_6 : Cond.isRef (.static Bundle.tN "UNASSIGNED_STACK" Bundle.steD) ∈ vF := by decide +kernel
theorem env_7 : Cond.laysStatic Bundle.tN "SUPPRESSED_SENTINEL" Bundle.listD ∈ lw_tbl := by decide +kernel
theorem env_8 : Cond.isRef (.static Bundle.tN "SUPPRESSED_SENTINEL" Bundle.listD) ∈ vF := by decide +kernel
theorem env_9 : Cond.laysStatic "java/lang/String" "COMPACT_STRINGS" "Z" ∈ lw_tbl := by decide +kernel
theorem env_10 : Cond.initialized "java/lang/String" ∈ lw_tbl := by decide +kernel
theorem env_11 : Cond.eq (.static "java/lang/String" "COMPACT_STRINGS" "Z") (.int 1) ∈ vF := by decide +kernel
theorem env_nw {s : State} {args : Array Value} (hts : ∀ w ∈ lw_tbl, w.before args s = true) : ∀ w ∈ lw_tbl, nword w = true → va_Nw w s := by
  intro w hw hn
  have h := hts w hw
  cases w <;> first | (simp [nword] at hn; done) | exact va_Nw.of rfl h
theorem env_at {s : State} {args : Array Value} (l : Launch) (hflags : l.flags = flags0) (hts : ∀ w ∈ lw_tbl, w.before args s = true) (hgv : (Cond.and given_1 narrow_1).before args s = true) : ∃ E : Ev, E.2.1 = s.heap ∧ Kn l E s ∧ Nx s ∧ va_AO "PageArchive$State" s := by
  have hs : ∀ w ∈ vF, w.before args s = true := flat_of_before _ hgv
  have htb : ∀ w ∈ tb, w.before args s = true := fun w hw => hts w (tb_lw hw)
  have hA : ∀ a : Nat, a < s.heap.size → ¬ s.heap.size ≤ a := fun a h => Nat.not_le.mpr h
  obtain ⟨D, hD⟩ := env_c htb
  obtain ⟨c0, a0, r0⟩ := env_a (htb _ ac_int)
  obtain ⟨c1, a1, r1⟩ := env_a (htb _ ac_byte)
  obtain ⟨c2, a2, r2⟩ := env_a (htb _ ac_boolean)
  obtain ⟨c3, a3, r3⟩ := env_o (hts _ env_ao)
  obtain ⟨c4, a4, r4⟩ := env_a (htb _ ac_long)
  obtain ⟨ad, had⟩ := Classical.axiomOfChoice (env_t (A := fun q => s.heap.size ≤ q) hs hA)
  refine ⟨(D, s.heap, fun i => (ad i).1, fun i => (ad i).2, fun t => [c0, c1, c2, c3, c4].getD t 0), rfl, ⟨⟨hD, fun k q hq => ?_⟩, ⟨env_nw hts, va_Zqof (hts _ env_1) (hts _ env_2) (hs _ env_3) hA⟩, ?_, vx_Zqof (hts _ env_4) (hts _ env_5) (hs _ env_6) hA, vx_Zqof (hts _ env_7) (hts _ env_5) (hs _ env_8) hA, va_Zof (hts _ env_9) (hts _ env_10) (va_eqt (hs _ env_11)) hA, fun i q hq => ?_, fun i q hq => (had i).2 q hq⟩, fun i hi j hj hij => va_Nc.of (hs _ (env_nx i hi j hj hij)), va_AO.of (hts _ env_ao)⟩
  · match k, hq with
    | 0, hq => cases hq; exact ⟨a0, r0⟩
    | 1, hq => cases hq; exact ⟨a1, r1⟩
    | 2, hq => cases hq; exact ⟨a2, r2⟩
    | 3, hq => cases hq; exact ⟨a3, r3⟩
    | 4, hq => cases hq; exact ⟨a4, r4⟩
    | k + 5, hq => simp [tys] at hq
  · unfold Launch.stackTraces
    rw [hflags]
    decide +kernel
  · have e : stT i = .string q.1 q.2.1 := by unfold stT; rw [hq]
    have h9 := (had i).1 q hq
    rw [e] at h9
    exact vk_R.of (hts _ (env_sr q (List.mem_of_getElem? hq))) h9
