/-! the class's constructors, by program out of the bytecode -/
theorem cqX10_1 {k : Nat} (h : kd k = 10) : kd (k + 2) = 100 + 8 := of_decide_eq_true (kdall (by decide) (fun k => decide (kd (k + 2) = 100 + 8)) (by decide +kernel) k h)
theorem cqX10_3 {k : Nat} (h : kd k = 10) : kd (k + 4) = 100 + 60 := of_decide_eq_true (kdall (by decide) (fun k => decide (kd (k + 4) = 100 + 60)) (by decide +kernel) k h)
theorem cqX10_5 {k : Nat} (h : kd k = 10) : kd (k + 6) = 100 + 12 := of_decide_eq_true (kdall (by decide) (fun k => decide (kd (k + 6) = 100 + 12)) (by decide +kernel) k h)
theorem cqX10_7 {k : Nat} (h : kd k = 10) : kd (k + 8) = 100 + 12 := of_decide_eq_true (kdall (by decide) (fun k => decide (kd (k + 8) = 100 + 12)) (by decide +kernel) k h)
theorem cqX10_9 {k : Nat} (h : kd k = 10) : kd (k + 10) = 100 + 12 := of_decide_eq_true (kdall (by decide) (fun k => decide (kd (k + 10) = 100 + 12)) (by decide +kernel) k h)
theorem cqX1_1 {k : Nat} (h : kd k = 1) : kd (k + 2) = 100 + 12 := of_decide_eq_true (kdall (by decide) (fun k => decide (kd (k + 2) = 100 + 12)) (by decide +kernel) k h)
theorem cqX1_3 {k : Nat} (h : kd k = 1) : kd (k + 4) = 100 + 12 := of_decide_eq_true (kdall (by decide) (fun k => decide (kd (k + 4) = 100 + 12)) (by decide +kernel) k h)
theorem cqX1_5 {k : Nat} (h : kd k = 1) : kd (k + 6) = 100 + 12 := of_decide_eq_true (kdall (by decide) (fun k => decide (kd (k + 6) = 100 + 12)) (by decide +kernel) k h)
theorem cqX1_7 {k : Nat} (h : kd k = 1) : kd (k + 8) = 100 + 12 := of_decide_eq_true (kdall (by decide) (fun k => decide (kd (k + 8) = 100 + 12)) (by decide +kernel) k h)
theorem cqX5_1 {k : Nat} (h : kd k = 5) : kd (k + 2) = 100 + 60 := of_decide_eq_true (kdall (by decide) (fun k => decide (kd (k + 2) = 100 + 60)) (by decide +kernel) k h)
theorem cqX5_3 {k : Nat} (h : kd k = 5) : kd (k + 4) = 100 + 60 := of_decide_eq_true (kdall (by decide) (fun k => decide (kd (k + 4) = 100 + 60)) (by decide +kernel) k h)
theorem cqX5_5 {k : Nat} (h : kd k = 5) : kd (k + 6) = 100 + 60 := of_decide_eq_true (kdall (by decide) (fun k => decide (kd (k + 6) = 100 + 60)) (by decide +kernel) k h)
theorem cqX9_1 {k : Nat} (h : kd k = 9) : kd (k + 2) = 100 + 10 := of_decide_eq_true (kdall (by decide) (fun k => decide (kd (k + 2) = 100 + 10)) (by decide +kernel) k h)
theorem cqX2_1 {k : Nat} (h : kd k = 2) : kd (k + 2) = 100 + 144 := of_decide_eq_true (kdall (by decide) (fun k => decide (kd (k + 2) = 100 + 144)) (by decide +kernel) k h)
theorem cqX2_3 {k : Nat} (h : kd k = 2) : kd (k + 4) = 100 + 144 := of_decide_eq_true (kdall (by decide) (fun k => decide (kd (k + 4) = 100 + 144)) (by decide +kernel) k h)
theorem cqX2_5 {k : Nat} (h : kd k = 2) : kd (k + 6) = 100 + 144 := of_decide_eq_true (kdall (by decide) (fun k => decide (kd (k + 6) = 100 + 144)) (by decide +kernel) k h)
theorem cqX2_7 {k : Nat} (h : kd k = 2) : kd (k + 8) = 100 + 144 := of_decide_eq_true (kdall (by decide) (fun k => decide (kd (k + 8) = 100 + 144)) (by decide +kernel) k h)
theorem cqX2_9 {k : Nat} (h : kd k = 2) : kd (k + 10) = 100 + 120 := of_decide_eq_true (kdall (by decide) (fun k => decide (kd (k + 10) = 100 + 120)) (by decide +kernel) k h)
theorem cqX2_11 {k : Nat} (h : kd k = 2) : kd (k + 12) = 100 + 24 := of_decide_eq_true (kdall (by decide) (fun k => decide (kd (k + 12) = 100 + 24)) (by decide +kernel) k h)
theorem cqX4_1 {k : Nat} (h : kd k = 4) : kd (k + 2) = 100 + 60 := of_decide_eq_true (kdall (by decide) (fun k => decide (kd (k + 2) = 100 + 60)) (by decide +kernel) k h)
theorem cqX4_3 {k : Nat} (h : kd k = 4) : kd (k + 4) = 100 + 60 := of_decide_eq_true (kdall (by decide) (fun k => decide (kd (k + 4) = 100 + 60)) (by decide +kernel) k h)
theorem cqX4_5 {k : Nat} (h : kd k = 4) : kd (k + 6) = 100 + 144 := of_decide_eq_true (kdall (by decide) (fun k => decide (kd (k + 6) = 100 + 144)) (by decide +kernel) k h)
theorem cqX4_7 {k : Nat} (h : kd k = 4) : kd (k + 8) = 100 + 60 := of_decide_eq_true (kdall (by decide) (fun k => decide (kd (k + 8) = 100 + 60)) (by decide +kernel) k h)
theorem cqX4_9 {k : Nat} (h : kd k = 4) : kd (k + 10) = 100 + 60 := of_decide_eq_true (kdall (by decide) (fun k => decide (kd (k + 10) = 100 + 60)) (by decide +kernel) k h)
theorem cqX6_32 {k : Nat} (h : kd k = 6) : kd (k + 33) = 100 + 600 := of_decide_eq_true (kdall (by decide) (fun k => decide (kd (k + 33) = 100 + 600)) (by decide +kernel) k h)
theorem cqX11_35 {k : Nat} (h : kd k = 11) : kd (k + 36) = 100 + 236 := of_decide_eq_true (kdall (by decide) (fun k => decide (kd (k + 36) = 100 + 236)) (by decide +kernel) k h)
theorem cqX11_37 {k : Nat} (h : kd k = 11) : kd (k + 38) = 100 + 32 := of_decide_eq_true (kdall (by decide) (fun k => decide (kd (k + 38) = 100 + 32)) (by decide +kernel) k h)
theorem cqX11_39 {k : Nat} (h : kd k = 11) : kd (k + 40) = 100 + 32 := of_decide_eq_true (kdall (by decide) (fun k => decide (kd (k + 40) = 100 + 32)) (by decide +kernel) k h)
theorem pos_le {n : Nat} (h : 0 < n) (h2 : n ≤ 10000) : ¬ Int32.ofNat n ≤ 0 := by
  rw [Int32.le_iff_toInt_le, Int32.toInt_ofNat_of_lt (by omega)]
  have e0 : (0 : Int32).toInt = 0 := rfl
  rw [e0]
  omega
theorem pos_lt {n : Nat} (h2 : n ≤ 10000) : ¬ Int32.ofNat n < 0 := by
  rw [Int32.lt_iff_toInt_lt, Int32.toInt_ofNat_of_lt (by omega)]
  have e0 : (0 : Int32).toInt = 0 := rfl
  rw [e0]
  omega
theorem pos_nat {n : Nat} (h2 : n ≤ 10000) : (Int32.ofNat n).toNatClampNeg = n := by
  have e2 : (Int32.ofNat n).toNatClampNeg = (Int32.ofNat n).toInt.toNat := rfl
  rw [e2, Int32.toInt_ofNat_of_lt (by omega)]
  omega
