/-! THE LAW'S LOOP -/
def Sims (Rel : Mem → Mem → Prop) : Prop := Sim0 Rel ∧ Sim1 Rel ∧ Sim2 Rel ∧ Sim3 Rel ∧ Sim4 Rel ∧ Sim5 Rel ∧ Sim6 Rel ∧ Sim7 Rel ∧ Sim8 Rel ∧ Sim9 Rel ∧ Sim10 Rel ∧ Sim11 Rel ∧ Sim12 Rel ∧ Sim13 Rel ∧ Sim14 Rel ∧ Sim15 Rel ∧ Sim16 Rel ∧ Sim17 Rel ∧ Sim18 Rel ∧ Sim19 Rel ∧ Sim20 Rel ∧ Sim21 Rel ∧ Sim22 Rel ∧ Sim23 Rel ∧ Sim24 Rel ∧ Sim25 Rel ∧ Sim26 Rel ∧ Sim27 Rel ∧ Sim28 Rel ∧ Sim29 Rel ∧ Sim30 Rel ∧ Sim31 Rel ∧ Sim32 Rel ∧ Sim33 Rel ∧ Sim34 Rel ∧ Sim35 Rel ∧ Sim36 Rel ∧ Sim37 Rel ∧ Sim38 Rel ∧ Sim39 Rel ∧ Sim40 Rel ∧ Sim41 Rel ∧ Sim42 Rel ∧ Sim43 Rel ∧ Sim44 Rel ∧ Sim45 Rel ∧ Sim46 Rel ∧ Sim47 Rel
theorem ib_go {i N : Nat} (hi : i ≤ 4000) (hN : N ≤ 3072) (h : ¬ Int32.ofNat N - 6 < Int32.ofNat i) : i + 6 ≤ N := by
  rw [Int32.lt_iff_toInt_lt, Int32.toInt_sub, Int32.toInt_ofNat_of_lt (by omega), Int32.toInt_ofNat_of_lt (by omega)] at h
  have e6 : (6 : Int32).toInt = 6 := rfl
  rw [e6, Int.bmod_eq_of_le (by omega) (by omega)] at h
  omega
theorem ib_in {i N j : Nat} (hN : N ≤ 3072) (h : i + 6 ≤ N) (hj : j < 6) : vp_in (Int32.ofNat i + Int32.ofNat j) N := by
  rw [← Int32.ofNat_add]
  intro z
  have e1 : (Int32.ofNat (i + j)).toInt = ((i + j : Nat) : Int) := Int32.toInt_ofNat_of_lt (by omega)
  rcases z with z | z
  · rw [Int32.lt_iff_toInt_lt, e1] at z
    have e0 : (0 : Int32).toInt = 0 := rfl
    rw [e0] at z
    omega
  · have e2 : (Int32.ofNat (i + j)).toNatClampNeg = (Int32.ofNat (i + j)).toInt.toNat := rfl
    rw [e2, e1] at z
    omega
theorem tab_out {v : Int32} (h : ¬ ∃ n, n < 48 ∧ v = Int32.ofNat n) : v.toInt < 0 ∨ 47 < v.toInt := by
  rcases Int.lt_or_le v.toInt 0 with q | q
  · exact Or.inl q
  · refine Or.inr (Int.not_le.mp fun q2 => h ⟨v.toInt.toNat, by omega, ?_⟩)
    apply Int32.toInt_inj.mp
    rw [Int32.toInt_ofNat_of_lt (by omega)]
    omega
set_option maxRecDepth 100000 in
set_option maxHeartbeats 8000000 in
theorem law_loop {p : Program} {l : Launch} {e : Env} {s : State} {m : MethodId} {below : List Frame} {meth : Method} {c : Code} {E : Ev} {a b o b0 N : Nat} {xs : Nat → Int32} {Rel : Mem → Mem → Prop} (S : Sims Rel) (C : Cx p l s m #[Value.ref b0] meth c E cL_law 7 RL (some .boolean)) (hN : Nx s) (hE : E.2.1 = s.heap) (hX : va_X b0 N xs s s.heap) (hbl : b0 < s.heap.size) (hNL : N ≤ 3072) :
    ∀ (n j : Nat) (σ τ : Mem) (w : Int64) (H : Heap) (locs : List Loc) (ls : Array Slot), 6 * j ≤ N → N + 6 ≤ 6 * j + 6 * n → Rel σ τ → WL E a b o σ τ w H → va_S (An s) s.heap H locs → lv_has ls 7 [(0, .ref b0), (1, .ref (a + 0)), (2, .ref (b + 0)), (3, .ref o), (4, .int (Int32.ofNat (6 * j)))] → W p l e room_1 s m #[Value.ref b0] below meth c H locs (500 + 4 * j) (20000 + 24 * j) (lw_Z below #[Value.ref b0] s) (F0 m 23 ls []) := by
  have hx0 := C.1
  have hb := C.2.1
  have hbA : ¬ An s b0 := Nat.not_le.mpr hbl
  intro n
  induction n with
  | zero =>
    intro j σ τ w H locs ls h1 h2
    exact absurd h2 (by omega)
  | succ n ih =>
    intro j σ τ w H locs ls hj hn hrel hWL hS hl
    refine lv_iload hx0 hb dL_law_23 (lv_at hl 4 rfl) ?_
    refine lv_aload_n hx0 hb dL_law_25 rfl (lv_at hl 0 rfl) ?_
    refine va_slen hx0 hb hX hbl hbA hS dL_law_26 ?_
    refine lv_bipush (v := (6 : Int32)) hx0 hb dL_law_27 (by decide) ?_
    refine lv_isub hx0 hb dL_law_29 ?_
    refine lv_icmp_gt (tgt := 2465) hx0 hb dL_law_30 (by decide) (fun _ => ?_) (fun hc => ?_)
    · refine lv_iconst (v := (1 : Int32)) hx0 hb dL_law_2465 (by decide) ?_
      refine va_forget (fun q hq => hS.2.2 q hq) ?_
      refine W.widen (k := 601024) (n := 7293034) (by omega) (by omega) ?_
      exact lw_ret hx0 hb C.2.2.2.2.2.2.1 C.2.2.2.2.2.1 dL_law_2466
    · have hlt : 6 * j + 6 ≤ N := ib_go (by omega) hNL hc
      have hin : ∀ i : Nat, i < 6 → vp_in (Int32.ofNat (6 * j) + Int32.ofNat i) N := fun i hi => ib_in hNL hlt hi
      have hin0 : vp_in (Int32.ofNat (6 * j)) N := by
        have h0 := hin 0 (by decide)
        have e0 : Int32.ofNat (6 * j) + Int32.ofNat 0 = Int32.ofNat (6 * j) := by rw [← Int32.ofNat_add]; rfl
        rw [e0] at h0
        exact h0
      refine lv_aload_n hx0 hb dL_law_33 rfl (lv_at hl 0 rfl) ?_
      refine lv_iload hx0 hb dL_law_34 (lv_at hl 4 rfl) ?_
      refine va_sld hx0 hb hX hbl hbA hS hin0 dL_law_36 ?_
      refine lv_bipush (v := (63 : Int32)) hx0 hb dL_law_37 (by decide) ?_
      refine lv_iand hx0 hb dL_law_39 ?_
      have hcs : (500 + 4 * j) + 4 ≤ 601024 ∧ (20000 + 24 * j) + 24 ≤ 7293034 := ⟨by omega, by omega⟩
      have hend : ∀ (σ τ : Mem) (w : Int64) (H : Heap) (locs : List Loc) (ls : Array Slot), Rel σ τ → WL E a b o σ τ w H → va_S (An s) s.heap H locs → lv_has ls 7 [(0, .ref b0), (1, .ref (a + 0)), (2, .ref (b + 0)), (3, .ref o), (4, .int (Int32.ofNat (6 * j)))] → W p l e room_1 s m #[Value.ref b0] below meth c H locs ((500 + 4 * j) + 4) ((20000 + 24 * j) + 24) (lw_Z below #[Value.ref b0] s) (F0 m 2459 ls []) := by
        intro σ τ w H locs ls hrel hWL hS hl
        refine lv_iinc (v := Int32.ofNat (6 * (j + 1))) (lv' := [(4, .int (Int32.ofNat (6 * (j + 1)))), (0, .ref b0), (1, .ref (a + 0)), (2, .ref (b + 0)), (3, .ref o)]) hx0 hb dL_law_2459 hl (k := 4) rfl (by rw [show 6 * (j + 1) = 6 * j + 6 by omega, Int32.ofNat_add]; rfl) (by decide) rfl (fun ls hl => ?_)
        refine lv_goto (tgt := 23) hx0 hb dL_law_2462 (by decide) ?_
        exact ih (j + 1) σ τ w H locs ls (by omega) (by omega) hrel hWL hS (lv_sub hl [1, 2, 3, 4, 0] rfl)
      generalize xs (Int32.ofNat (6 * j)).toNatClampNeg &&& (63 : Int32) = v
      by_cases hv : ∃ n, n < 48 ∧ v = Int32.ofNat n
      · obtain ⟨k, hk, ev⟩ := hv
        match k, hk, ev with
        | 0, _, ev =>
          refine lv_tableIn (tgt := 248) hx0 hb dL_law_40 (by rw [ev]; decide) (by rw [ev]; decide) (by rw [ev]; rfl) (by decide) ?_
          exact lc_0 (S.1) C hN hE hX hbl hin hcs hrel hWL hS hl hend
        | 1, _, ev =>
          refine lv_tableIn (tgt := 352) hx0 hb dL_law_40 (by rw [ev]; decide) (by rw [ev]; decide) (by rw [ev]; rfl) (by decide) ?_
          exact lc_1 (S.2.1) C hN hE hX hbl hin hcs hrel hWL hS hl hend
        | 2, _, ev =>
          refine lv_tableIn (tgt := 408) hx0 hb dL_law_40 (by rw [ev]; decide) (by rw [ev]; decide) (by rw [ev]; rfl) (by decide) ?_
          exact lc_2 (S.2.2.1) C hN hE hX hbl hin hcs hrel hWL hS hl hend
        | 3, _, ev =>
          refine lv_tableIn (tgt := 421) hx0 hb dL_law_40 (by rw [ev]; decide) (by rw [ev]; decide) (by rw [ev]; rfl) (by decide) ?_
          exact lc_3 (S.2.2.2.1) C hN hE hX hbl hin hcs hrel hWL hS hl hend
        | 4, _, ev =>
          refine lv_tableIn (tgt := 465) hx0 hb dL_law_40 (by rw [ev]; decide) (by rw [ev]; decide) (by rw [ev]; rfl) (by decide) ?_
          exact lc_4 (S.2.2.2.2.1) C hN hE hX hbl hin hcs hrel hWL hS hl hend
        | 5, _, ev =>
          refine lv_tableIn (tgt := 521) hx0 hb dL_law_40 (by rw [ev]; decide) (by rw [ev]; decide) (by rw [ev]; rfl) (by decide) ?_
          exact lc_5 (S.2.2.2.2.2.1) C hN hE hX hbl hin hcs hrel hWL hS hl hend
        | 6, _, ev =>
          refine lv_tableIn (tgt := 577) hx0 hb dL_law_40 (by rw [ev]; decide) (by rw [ev]; decide) (by rw [ev]; rfl) (by decide) ?_
          exact lc_6 (S.2.2.2.2.2.2.1) C hN hE hX hbl hin hcs hrel hWL hS hl hend
        | 7, _, ev =>
          refine lv_tableIn (tgt := 657) hx0 hb dL_law_40 (by rw [ev]; decide) (by rw [ev]; decide) (by rw [ev]; rfl) (by decide) ?_
          exact lc_7 (S.2.2.2.2.2.2.2.1) C hN hE hX hbl hin hcs hrel hWL hS hl hend
        | 8, _, ev =>
          refine lv_tableIn (tgt := 713) hx0 hb dL_law_40 (by rw [ev]; decide) (by rw [ev]; decide) (by rw [ev]; rfl) (by decide) ?_
          exact lc_8 (S.2.2.2.2.2.2.2.2.1) C hN hE hX hbl hin hcs hrel hWL hS hl hend
        | 9, _, ev =>
          refine lv_tableIn (tgt := 805) hx0 hb dL_law_40 (by rw [ev]; decide) (by rw [ev]; decide) (by rw [ev]; rfl) (by decide) ?_
          exact lc_9 (S.2.2.2.2.2.2.2.2.2.1) C hN hE hX hbl hin hcs hrel hWL hS hl hend
        | 10, _, ev =>
          refine lv_tableIn (tgt := 873) hx0 hb dL_law_40 (by rw [ev]; decide) (by rw [ev]; decide) (by rw [ev]; rfl) (by decide) ?_
          exact lc_10 (S.2.2.2.2.2.2.2.2.2.2.1) C hN hE hX hbl hin hcs hrel hWL hS hl hend
        | 11, _, ev =>
          refine lv_tableIn (tgt := 929) hx0 hb dL_law_40 (by rw [ev]; decide) (by rw [ev]; decide) (by rw [ev]; rfl) (by decide) ?_
          exact lc_11 (S.2.2.2.2.2.2.2.2.2.2.2.1) C hN hE hX hbl hin hcs hrel hWL hS hl hend
        | 12, _, ev =>
          refine lv_tableIn (tgt := 997) hx0 hb dL_law_40 (by rw [ev]; decide) (by rw [ev]; decide) (by rw [ev]; rfl) (by decide) ?_
          exact lc_12 (S.2.2.2.2.2.2.2.2.2.2.2.2.1) C hN hE hX hbl hin hcs hrel hWL hS hl hend
        | 13, _, ev =>
          refine lv_tableIn (tgt := 1053) hx0 hb dL_law_40 (by rw [ev]; decide) (by rw [ev]; decide) (by rw [ev]; rfl) (by decide) ?_
          exact lc_13 (S.2.2.2.2.2.2.2.2.2.2.2.2.2.1) C hN hE hX hbl hin hcs hrel hWL hS hl hend
        | 14, _, ev =>
          refine lv_tableIn (tgt := 1121) hx0 hb dL_law_40 (by rw [ev]; decide) (by rw [ev]; decide) (by rw [ev]; rfl) (by decide) ?_
          exact lc_14 (S.2.2.2.2.2.2.2.2.2.2.2.2.2.2.1) C hN hE hX hbl hin hcs hrel hWL hS hl hend
        | 15, _, ev =>
          refine lv_tableIn (tgt := 1134) hx0 hb dL_law_40 (by rw [ev]; decide) (by rw [ev]; decide) (by rw [ev]; rfl) (by decide) ?_
          exact lc_15 (S.2.2.2.2.2.2.2.2.2.2.2.2.2.2.2.1) C hN hE hX hbl hin hcs hrel hWL hS hl hend
        | 16, _, ev =>
          refine lv_tableIn (tgt := 1190) hx0 hb dL_law_40 (by rw [ev]; decide) (by rw [ev]; decide) (by rw [ev]; rfl) (by decide) ?_
          exact lc_16 (S.2.2.2.2.2.2.2.2.2.2.2.2.2.2.2.2.1) C hN hE hX hbl hin hcs hrel hWL hS hl hend
        | 17, _, ev =>
          refine lv_tableIn (tgt := 1246) hx0 hb dL_law_40 (by rw [ev]; decide) (by rw [ev]; decide) (by rw [ev]; rfl) (by decide) ?_
          exact lc_17 (S.2.2.2.2.2.2.2.2.2.2.2.2.2.2.2.2.2.1) C hN hE hX hbl hin hcs hrel hWL hS hl hend
        | 18, _, ev =>
          refine lv_tableIn (tgt := 1290) hx0 hb dL_law_40 (by rw [ev]; decide) (by rw [ev]; decide) (by rw [ev]; rfl) (by decide) ?_
          exact lc_18 (S.2.2.2.2.2.2.2.2.2.2.2.2.2.2.2.2.2.2.1) C hN hE hX hbl hin hcs hrel hWL hS hl hend
        | 19, _, ev =>
          refine lv_tableIn (tgt := 1346) hx0 hb dL_law_40 (by rw [ev]; decide) (by rw [ev]; decide) (by rw [ev]; rfl) (by decide) ?_
          exact lc_19 (S.2.2.2.2.2.2.2.2.2.2.2.2.2.2.2.2.2.2.2.1) C hN hE hX hbl hin hcs hrel hWL hS hl hend
        | 20, _, ev =>
          refine lv_tableIn (tgt := 1414) hx0 hb dL_law_40 (by rw [ev]; decide) (by rw [ev]; decide) (by rw [ev]; rfl) (by decide) ?_
          exact lc_20 (S.2.2.2.2.2.2.2.2.2.2.2.2.2.2.2.2.2.2.2.2.1) C hN hE hX hbl hin hcs hrel hWL hS hl hend
        | 21, _, ev =>
          refine lv_tableIn (tgt := 1482) hx0 hb dL_law_40 (by rw [ev]; decide) (by rw [ev]; decide) (by rw [ev]; rfl) (by decide) ?_
          exact lc_21 (S.2.2.2.2.2.2.2.2.2.2.2.2.2.2.2.2.2.2.2.2.2.1) C hN hE hX hbl hin hcs hrel hWL hS hl hend
        | 22, _, ev =>
          refine lv_tableIn (tgt := 1495) hx0 hb dL_law_40 (by rw [ev]; decide) (by rw [ev]; decide) (by rw [ev]; rfl) (by decide) ?_
          exact lc_22 (S.2.2.2.2.2.2.2.2.2.2.2.2.2.2.2.2.2.2.2.2.2.2.1) C hN hE hX hbl hin hcs hrel hWL hS hl hend
        | 23, _, ev =>
          refine lv_tableIn (tgt := 1551) hx0 hb dL_law_40 (by rw [ev]; decide) (by rw [ev]; decide) (by rw [ev]; rfl) (by decide) ?_
          exact lc_23 (S.2.2.2.2.2.2.2.2.2.2.2.2.2.2.2.2.2.2.2.2.2.2.2.1) C hN hE hX hbl hin hcs hrel hWL hS hl hend
        | 24, _, ev =>
          refine lv_tableIn (tgt := 1564) hx0 hb dL_law_40 (by rw [ev]; decide) (by rw [ev]; decide) (by rw [ev]; rfl) (by decide) ?_
          exact lc_24 (S.2.2.2.2.2.2.2.2.2.2.2.2.2.2.2.2.2.2.2.2.2.2.2.2.1) C hN hE hX hbl hin hcs hrel hWL hS hl hend
        | 25, _, ev =>
          refine lv_tableIn (tgt := 1632) hx0 hb dL_law_40 (by rw [ev]; decide) (by rw [ev]; decide) (by rw [ev]; rfl) (by decide) ?_
          exact lc_25 (S.2.2.2.2.2.2.2.2.2.2.2.2.2.2.2.2.2.2.2.2.2.2.2.2.2.1) C hN hE hX hbl hin hcs hrel hWL hS hl hend
        | 26, _, ev =>
          refine lv_tableIn (tgt := 1700) hx0 hb dL_law_40 (by rw [ev]; decide) (by rw [ev]; decide) (by rw [ev]; rfl) (by decide) ?_
          exact lc_26 (S.2.2.2.2.2.2.2.2.2.2.2.2.2.2.2.2.2.2.2.2.2.2.2.2.2.2.1) C hN hE hX hbl hin hcs hrel hWL hS hl hend
        | 27, _, ev =>
          refine lv_tableIn (tgt := 1756) hx0 hb dL_law_40 (by rw [ev]; decide) (by rw [ev]; decide) (by rw [ev]; rfl) (by decide) ?_
          exact lc_27 (S.2.2.2.2.2.2.2.2.2.2.2.2.2.2.2.2.2.2.2.2.2.2.2.2.2.2.2.1) C hN hE hX hbl hin hcs hrel hWL hS hl hend
        | 28, _, ev =>
          refine lv_tableIn (tgt := 1824) hx0 hb dL_law_40 (by rw [ev]; decide) (by rw [ev]; decide) (by rw [ev]; rfl) (by decide) ?_
          exact lc_28 (S.2.2.2.2.2.2.2.2.2.2.2.2.2.2.2.2.2.2.2.2.2.2.2.2.2.2.2.2.1) C hN hE hX hbl hin hcs hrel hWL hS hl hend
        | 29, _, ev =>
          refine lv_tableIn (tgt := 1880) hx0 hb dL_law_40 (by rw [ev]; decide) (by rw [ev]; decide) (by rw [ev]; rfl) (by decide) ?_
          exact lc_29 (S.2.2.2.2.2.2.2.2.2.2.2.2.2.2.2.2.2.2.2.2.2.2.2.2.2.2.2.2.2.1) C hN hE hX hbl hin hcs hrel hWL hS hl hend
        | 30, _, ev =>
          refine lv_tableIn (tgt := 1936) hx0 hb dL_law_40 (by rw [ev]; decide) (by rw [ev]; decide) (by rw [ev]; rfl) (by decide) ?_
          exact lc_30 (S.2.2.2.2.2.2.2.2.2.2.2.2.2.2.2.2.2.2.2.2.2.2.2.2.2.2.2.2.2.2.1) C hN hE hX hbl hin hcs hrel hWL hS hl hend
        | 31, _, ev =>
          refine lv_tableIn (tgt := 1949) hx0 hb dL_law_40 (by rw [ev]; decide) (by rw [ev]; decide) (by rw [ev]; rfl) (by decide) ?_
          exact lc_31 (S.2.2.2.2.2.2.2.2.2.2.2.2.2.2.2.2.2.2.2.2.2.2.2.2.2.2.2.2.2.2.2.1) C hN hE hX hbl hin hcs hrel hWL hS hl hend
        | 32, _, ev =>
          refine lv_tableIn (tgt := 2017) hx0 hb dL_law_40 (by rw [ev]; decide) (by rw [ev]; decide) (by rw [ev]; rfl) (by decide) ?_
          exact lc_32 (S.2.2.2.2.2.2.2.2.2.2.2.2.2.2.2.2.2.2.2.2.2.2.2.2.2.2.2.2.2.2.2.2.1) C hN hE hX hbl hin hcs hrel hWL hS hl hend
        | 33, _, ev =>
          refine lv_tableIn (tgt := 2030) hx0 hb dL_law_40 (by rw [ev]; decide) (by rw [ev]; decide) (by rw [ev]; rfl) (by decide) ?_
          exact lc_33 (S.2.2.2.2.2.2.2.2.2.2.2.2.2.2.2.2.2.2.2.2.2.2.2.2.2.2.2.2.2.2.2.2.2.1) C hN hE hX hbl hin hcs hrel hWL hS hl hend
        | 34, _, ev =>
          refine lv_tableIn (tgt := 2043) hx0 hb dL_law_40 (by rw [ev]; decide) (by rw [ev]; decide) (by rw [ev]; rfl) (by decide) ?_
          exact lc_34 (S.2.2.2.2.2.2.2.2.2.2.2.2.2.2.2.2.2.2.2.2.2.2.2.2.2.2.2.2.2.2.2.2.2.2.1) C hN hE hX hbl hin hcs hrel hWL hS hl hend
        | 35, _, ev =>
          refine lv_tableIn (tgt := 2056) hx0 hb dL_law_40 (by rw [ev]; decide) (by rw [ev]; decide) (by rw [ev]; rfl) (by decide) ?_
          exact lc_35 (S.2.2.2.2.2.2.2.2.2.2.2.2.2.2.2.2.2.2.2.2.2.2.2.2.2.2.2.2.2.2.2.2.2.2.2.1) C hN hE hX hbl hin hcs hrel hWL hS hl hend
        | 36, _, ev =>
          refine lv_tableIn (tgt := 2124) hx0 hb dL_law_40 (by rw [ev]; decide) (by rw [ev]; decide) (by rw [ev]; rfl) (by decide) ?_
          exact lc_36 (S.2.2.2.2.2.2.2.2.2.2.2.2.2.2.2.2.2.2.2.2.2.2.2.2.2.2.2.2.2.2.2.2.2.2.2.2.1) C hN hE hX hbl hin hcs hrel hWL hS hl hend
        | 37, _, ev =>
          refine lv_tableIn (tgt := 2180) hx0 hb dL_law_40 (by rw [ev]; decide) (by rw [ev]; decide) (by rw [ev]; rfl) (by decide) ?_
          exact lc_37 (S.2.2.2.2.2.2.2.2.2.2.2.2.2.2.2.2.2.2.2.2.2.2.2.2.2.2.2.2.2.2.2.2.2.2.2.2.2.1) C hN hE hX hbl hin hcs hrel hWL hS hl hend
        | 38, _, ev =>
          refine lv_tableIn (tgt := 2193) hx0 hb dL_law_40 (by rw [ev]; decide) (by rw [ev]; decide) (by rw [ev]; rfl) (by decide) ?_
          exact lc_38 (S.2.2.2.2.2.2.2.2.2.2.2.2.2.2.2.2.2.2.2.2.2.2.2.2.2.2.2.2.2.2.2.2.2.2.2.2.2.2.1) C hN hE hX hbl hin hcs hrel hWL hS hl hend
        | 39, _, ev =>
          refine lv_tableIn (tgt := 2249) hx0 hb dL_law_40 (by rw [ev]; decide) (by rw [ev]; decide) (by rw [ev]; rfl) (by decide) ?_
          exact lc_39 (S.2.2.2.2.2.2.2.2.2.2.2.2.2.2.2.2.2.2.2.2.2.2.2.2.2.2.2.2.2.2.2.2.2.2.2.2.2.2.2.1) C hN hE hX hbl hin hcs hrel hWL hS hl hend
        | 40, _, ev =>
          refine lv_tableIn (tgt := 2262) hx0 hb dL_law_40 (by rw [ev]; decide) (by rw [ev]; decide) (by rw [ev]; rfl) (by decide) ?_
          exact lc_40 (S.2.2.2.2.2.2.2.2.2.2.2.2.2.2.2.2.2.2.2.2.2.2.2.2.2.2.2.2.2.2.2.2.2.2.2.2.2.2.2.2.1) C hN hE hX hbl hin hcs hrel hWL hS hl hend
        | 41, _, ev =>
          refine lv_tableIn (tgt := 2275) hx0 hb dL_law_40 (by rw [ev]; decide) (by rw [ev]; decide) (by rw [ev]; rfl) (by decide) ?_
          exact lc_41 (S.2.2.2.2.2.2.2.2.2.2.2.2.2.2.2.2.2.2.2.2.2.2.2.2.2.2.2.2.2.2.2.2.2.2.2.2.2.2.2.2.2.1) C hN hE hX hbl hin hcs hrel hWL hS hl hend
        | 42, _, ev =>
          refine lv_tableIn (tgt := 2288) hx0 hb dL_law_40 (by rw [ev]; decide) (by rw [ev]; decide) (by rw [ev]; rfl) (by decide) ?_
          exact lc_42 (S.2.2.2.2.2.2.2.2.2.2.2.2.2.2.2.2.2.2.2.2.2.2.2.2.2.2.2.2.2.2.2.2.2.2.2.2.2.2.2.2.2.2.1) C hN hE hX hbl hin hcs hrel hWL hS hl hend
        | 43, _, ev =>
          refine lv_tableIn (tgt := 2301) hx0 hb dL_law_40 (by rw [ev]; decide) (by rw [ev]; decide) (by rw [ev]; rfl) (by decide) ?_
          exact lc_43 (S.2.2.2.2.2.2.2.2.2.2.2.2.2.2.2.2.2.2.2.2.2.2.2.2.2.2.2.2.2.2.2.2.2.2.2.2.2.2.2.2.2.2.2.1) C hN hE hX hbl hin hcs hrel hWL hS hl hend
        | 44, _, ev =>
          refine lv_tableIn (tgt := 2345) hx0 hb dL_law_40 (by rw [ev]; decide) (by rw [ev]; decide) (by rw [ev]; rfl) (by decide) ?_
          exact lc_44 (S.2.2.2.2.2.2.2.2.2.2.2.2.2.2.2.2.2.2.2.2.2.2.2.2.2.2.2.2.2.2.2.2.2.2.2.2.2.2.2.2.2.2.2.2.1) C hN hE hX hbl hin hcs hrel hWL hS hl hend
        | 45, _, ev =>
          refine lv_tableIn (tgt := 2389) hx0 hb dL_law_40 (by rw [ev]; decide) (by rw [ev]; decide) (by rw [ev]; rfl) (by decide) ?_
          exact lc_45 (S.2.2.2.2.2.2.2.2.2.2.2.2.2.2.2.2.2.2.2.2.2.2.2.2.2.2.2.2.2.2.2.2.2.2.2.2.2.2.2.2.2.2.2.2.2.1) C hN hE hX hbl hin hcs hrel hWL hS hl hend
        | 46, _, ev =>
          refine lv_tableIn (tgt := 2402) hx0 hb dL_law_40 (by rw [ev]; decide) (by rw [ev]; decide) (by rw [ev]; rfl) (by decide) ?_
          exact lc_46 (S.2.2.2.2.2.2.2.2.2.2.2.2.2.2.2.2.2.2.2.2.2.2.2.2.2.2.2.2.2.2.2.2.2.2.2.2.2.2.2.2.2.2.2.2.2.2.1) C hN hE hX hbl hin hcs hrel hWL hS hl hend
        | 47, _, ev =>
          refine lv_tableIn (tgt := 2415) hx0 hb dL_law_40 (by rw [ev]; decide) (by rw [ev]; decide) (by rw [ev]; rfl) (by decide) ?_
          exact lc_47 (S.2.2.2.2.2.2.2.2.2.2.2.2.2.2.2.2.2.2.2.2.2.2.2.2.2.2.2.2.2.2.2.2.2.2.2.2.2.2.2.2.2.2.2.2.2.2.2) C hN hE hX hbl hin hcs hrel hWL hS hl hend
        | k + 48, hk, _ => exact absurd hk (by omega)
      · refine lv_tableOut (tgt := 2459) hx0 hb dL_law_40 (tab_out hv) (by decide) ?_
        refine W.widen (k := (500 + 4 * j) + 4) (n := (20000 + 24 * j) + 24) (by omega) (by omega) ?_
        exact hend _ _ _ _ _ _ hrel hWL hS hl
