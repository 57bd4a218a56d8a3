/-! PURE PART: the reading order as a list -/
def fl {α : Type} (f : Nat → List α) : Nat → Nat → List α
  | _, 0 => []
  | i, m + 1 => f i ++ fl f (i + 1) m
theorem fl_mem {α : Type} {f : Nat → List α} {x : α} : ∀ m i, x ∈ fl f i m → ∃ k, i ≤ k ∧ k < i + m ∧ x ∈ f k := by
  intro m
  induction m with
  | zero => intro i h; simp [fl] at h
  | succ m ih =>
    intro i h
    rw [fl, List.mem_append] at h
    rcases h with h | h
    · exact ⟨i, by omega, by omega, h⟩
    · obtain ⟨k, h1, h2, h3⟩ := ih (i + 1) h
      exact ⟨k, by omega, by omega, h3⟩
theorem fl_pw {α : Type} {R : α → α → Prop} {f : Nat → List α} : ∀ m i, (∀ k, i ≤ k → k < i + m → (f k).Pairwise R) → (∀ k k', i ≤ k → k < k' → k' < i + m → ∀ x, x ∈ f k → ∀ y, y ∈ f k' → R x y) → (fl f i m).Pairwise R := by
  intro m
  induction m with
  | zero => intro i _ _; simp [fl]
  | succ m ih =>
    intro i h1 h2
    rw [fl, List.pairwise_append]
    refine ⟨h1 i (by omega) (by omega), ih (i + 1) (fun k h3 h4 => h1 k (by omega) (by omega)) (fun k k' h3 h4 h5 => h2 k k' (by omega) h4 (by omega)), fun x hx y hy => ?_⟩
    obtain ⟨k, k1, k2, k3⟩ := fl_mem _ _ hy
    exact h2 i k (by omega) (by omega) (by omega) x hx y k3
theorem fl_congr {α : Type} {f g : Nat → List α} : ∀ m i, (∀ k, i ≤ k → k < i + m → f k = g k) → fl f i m = fl g i m := by
  intro m
  induction m with
  | zero => intro i _; rfl
  | succ m ih => intro i h; rw [fl, fl, h i (by omega) (by omega), ih (i + 1) (fun k h1 h2 => h k (by omega) (by omega))]
theorem fl_two {α : Type} (g : Nat → List α) : ∀ m i, fl g (2 * i) (2 * m) = fl (fun l => g (2 * l) ++ g (2 * l + 1)) i m := by
  intro m
  induction m with
  | zero => intro i; rfl
  | succ m ih =>
    intro i
    have e : 2 * (m + 1) = 2 * m + 1 + 1 := by omega
    have e2 : 2 * i + 1 + 1 = 2 * (i + 1) := by omega
    rw [e, fl, fl, e2, ih (i + 1), fl, List.append_assoc]
theorem fl_len {α : Type} (f : Nat → List α) : ∀ m i, (fl f i m).length = sm (fun k => (f k).length) i m := by
  intro m
  induction m with
  | zero => intro i; rfl
  | succ m ih => intro i; rw [fl, sm, List.length_append, ih]
abbrev En : Type := Nat × Option (Nat × Nat)
def eL (e : En) : Int32 := ι (e.1 / 2)
def eS (e : En) : Int32 := ι (e.1 % 2)
def eP (e : En) : Int32 := match e.2 with | none => μ | some p => ι p.1
def eW (e : En) : Int32 := match e.2 with | none => μ | some p => ι p.2
def eK (e : En) : Nat ⊕ (Nat × Nat) := match e.2 with | none => .inl e.1 | some p => .inr p
def onK (F : Nat → Int32) (k s : Nat) : Bool := onB F (ι (k / 2)) (ι (k % 2)) s
def slE (F : Nat → Int32) (k s : Nat) : List En := if onK F k s then fl (fun w => [(k, some (s, w))]) 0 (nn (F (5 + 3 * s + 2))) else []
def sdE (F : Nat → Int32) (a k : Nat) : List En := (k, none) :: fl (slE F k) 0 a
def kE (F : Nat → Int32) (a k : Nat) : List En := if pB F (k / 2) then sdE F a k else []
def ordE (F : Nat → Int32) (n a : Nat) : List En := fl (kE F a) 0 (2 * n)
theorem onK_eq {F : Nat → Int32} {n a k s : Nat} (hn : n ≤ 60) (h : ∀ s, s < a → SlI n F s) (hs : s < a) (hk : k < 120) (ho : onK F k s = true) : ∃ x y, x < n ∧ y < 2 ∧ k = 2 * x + y ∧ F (5 + 3 * s) = ι x ∧ F (5 + 3 * s + 1) = ι y := by
  unfold onK onB at ho
  rw [decide_eq_true_eq] at ho
  rcases (h s hs).1 with ⟨h1, -⟩ | ⟨x, y, h1, h2, h3, h4⟩
  · rw [ho.1, ι_m1 (by omega)] at h1; exact h1.elim
  · have g1 := ho.1
    have g2 := ho.2
    rw [h3, ι_eq (by omega) (by omega)] at g1
    rw [h4, ι_eq (by omega) (by omega)] at g2
    exact ⟨x, y, h1, h2, by omega, h3, h4⟩
theorem onK_uniq {F : Nat → Int32} {n a k k' s : Nat} (hn : n ≤ 60) (h : ∀ s, s < a → SlI n F s) (hs : s < a) (hk : k < 120) (hk' : k' < 120) (ho : onK F k s = true) (ho' : onK F k' s = true) : k = k' := by
  obtain ⟨x, y, h1, h2, h3, h4, h5⟩ := onK_eq hn h hs hk ho
  obtain ⟨x', y', h1', h2', h3', h4', h5'⟩ := onK_eq hn h hs hk' ho'
  rw [h4, ι_eq (by omega) (by omega)] at h4'
  rw [h5, ι_eq (by omega) (by omega)] at h5'
  omega
theorem slE_mem {F : Nat → Int32} {k s : Nat} {e : En} (h : e ∈ slE F k s) : onK F k s = true ∧ ∃ w, w < nn (F (5 + 3 * s + 2)) ∧ e = (k, some (s, w)) := by
  unfold slE at h
  by_cases ho : onK F k s = true
  · rw [if_pos ho] at h
    obtain ⟨w, h1, h2, h3⟩ := fl_mem _ _ h
    exact ⟨ho, w, by omega, by simpa using h3⟩
  · rw [if_neg ho] at h; cases h
theorem sdE_mem {F : Nat → Int32} {a k : Nat} {e : En} (h : e ∈ sdE F a k) : e = (k, none) ∨ ∃ s w, s < a ∧ onK F k s = true ∧ w < nn (F (5 + 3 * s + 2)) ∧ e = (k, some (s, w)) := by
  unfold sdE at h
  rcases List.mem_cons.mp h with h | h
  · exact Or.inl h
  · obtain ⟨s, h1, h2, h3⟩ := fl_mem _ _ h
    obtain ⟨h4, w, h5, h6⟩ := slE_mem h3
    exact Or.inr ⟨s, w, by omega, h4, h5, h6⟩
theorem kE_mem {F : Nat → Int32} {a k : Nat} {e : En} (h : e ∈ kE F a k) : pB F (k / 2) = true ∧ e.1 = k ∧ (e.2 = none ∨ ∃ s w, s < a ∧ onK F k s = true ∧ w < nn (F (5 + 3 * s + 2)) ∧ e.2 = some (s, w)) := by
  unfold kE at h
  by_cases hp : pB F (k / 2) = true
  · rw [if_pos hp] at h
    rcases sdE_mem h with h | ⟨s, w, h1, h2, h3, h4⟩
    · exact ⟨hp, by rw [h], Or.inl (by rw [h])⟩
    · exact ⟨hp, by rw [h4], Or.inr ⟨s, w, h1, h2, h3, by rw [h4]⟩⟩
  · rw [if_neg hp] at h; cases h
theorem ordE_mem {F : Nat → Int32} {n a : Nat} {e : En} (h : e ∈ ordE F n a) : e.1 < 2 * n ∧ pB F (e.1 / 2) = true ∧ (e.2 = none ∨ ∃ s w, s < a ∧ onK F e.1 s = true ∧ w < nn (F (5 + 3 * s + 2)) ∧ e.2 = some (s, w)) := by
  obtain ⟨k, h1, h2, h3⟩ := fl_mem _ _ h
  obtain ⟨h4, h5, h6⟩ := kE_mem h3
  subst h5
  exact ⟨by omega, h4, h6⟩
theorem ordE_sorted {F : Nat → Int32} {n a : Nat} : (ordE F n a).Pairwise (fun x y => x.1 ≤ y.1) := by
  refine fl_pw _ _ (fun k h1 h2 => ?_) (fun k k' h1 h2 h3 x hx y hy => ?_)
  · have : ∀ l : List En, (∀ e, e ∈ l → e.1 = k) → l.Pairwise (fun x y => x.1 ≤ y.1) := by
      intro l
      induction l with
      | nil => intro _; exact List.Pairwise.nil
      | cons e l ih =>
        intro h
        refine List.Pairwise.cons (fun y hy => ?_) (ih fun e he => h e (List.mem_cons_of_mem _ he))
        rw [h e (List.mem_cons_self ..), h y (List.mem_cons_of_mem _ hy)]
        exact Nat.le_refl _
    exact this _ fun e he => (kE_mem he).2.1
  · have := (kE_mem hx).2.1
    have := (kE_mem hy).2.1
    omega
theorem slE_pw {F : Nat → Int32} {k s : Nat} : (slE F k s).Pairwise (fun x y => eK x ≠ eK y) := by
  unfold slE
  by_cases h : onK F k s = true
  · rw [if_pos h]
    refine fl_pw _ _ (fun w h1 h2 => by simp) (fun w w' h1 h2 h3 x hx y hy => ?_)
    have hx : x = (k, some (s, w)) := by simpa using hx
    have hy : y = (k, some (s, w')) := by simpa using hy
    rw [hx, hy]
    intro z
    simp only [eK, Sum.inr.injEq, Prod.mk.injEq] at z
    omega
  · rw [if_neg h]; exact List.Pairwise.nil
theorem ordE_nodup {F : Nat → Int32} {n a : Nat} (hn : n ≤ 60) (h : ∀ s, s < a → SlI n F s) : (ordE F n a).Pairwise (fun x y => eK x ≠ eK y) := by
  refine fl_pw _ _ (fun k h1 h2 => ?_) (fun k k' h1 h2 h3 x hx y hy => ?_)
  · unfold kE
    by_cases hp : pB F (k / 2) = true
    · rw [if_pos hp]
      unfold sdE
      refine List.Pairwise.cons (fun y hy => ?_) (fl_pw _ _ (fun s _ _ => slE_pw) (fun s s' h1 h2 h3 x hx y hy => ?_))
      · obtain ⟨s, -, -, h3⟩ := fl_mem _ _ hy
        obtain ⟨-, w, -, h6⟩ := slE_mem h3
        rw [h6]
        intro z
        simp [eK] at z
      · obtain ⟨-, w, -, h6⟩ := slE_mem hx
        obtain ⟨-, w', -, h6'⟩ := slE_mem hy
        rw [h6, h6']
        intro z
        simp only [eK, Sum.inr.injEq, Prod.mk.injEq] at z
        omega
    · rw [if_neg hp]; exact List.Pairwise.nil
  · obtain ⟨-, x1, x2⟩ := kE_mem hx
    obtain ⟨-, y1, y2⟩ := kE_mem hy
    intro z
    rcases x2 with x2 | ⟨s, w, x3, x4, x5, x6⟩
    · rcases y2 with y2 | ⟨s', w', y3, y4, y5, y6⟩
      · simp only [eK, x2, y2, Sum.inl.injEq] at z; omega
      · simp [eK, x2, y6] at z
    · rcases y2 with y2 | ⟨s', w', y3, y4, y5, y6⟩
      · simp [eK, x6, y2] at z
      · simp only [eK, x6, y6, Sum.inr.injEq, Prod.mk.injEq] at z
        obtain ⟨z1, z2⟩ := z
        subst z1
        have := onK_uniq hn h x3 (by omega) (by omega) x4 y4
        omega
theorem cf_one {P : Nat → Bool} (h : ∀ k k', P k = true → P k' = true → k = k') : ∀ m i, cf P i m ≤ 1 := by
  intro m
  induction m with
  | zero => intro i; simp [cf]
  | succ m ih =>
    intro i
    rw [cf]
    by_cases hp : P i = true
    · rw [if_pos hp, cf_zero]
      · omega
      · intro k h1 h2
        cases hk : P k with
        | false => rfl
        | true => have := h i k hp hk; omega
    · rw [if_neg hp]; have := ih (i + 1); omega
theorem cf_one' {P : Nat → Bool} : ∀ m i, (∀ k k', i ≤ k → k < i + m → i ≤ k' → k' < i + m → P k = true → P k' = true → k = k') → cf P i m ≤ 1 := by
  intro m
  induction m with
  | zero => intro i _; simp [cf]
  | succ m ih =>
    intro i h
    rw [cf]
    by_cases hp : P i = true
    · rw [if_pos hp, cf_zero]
      · omega
      · intro k h1 h2
        cases hk : P k with
        | false => rfl
        | true => have := h i k (by omega) (by omega) (by omega) (by omega) hp hk; omega
    · rw [if_neg hp]
      have := ih (i + 1) (fun k k' h1 h2 h3 h4 => h k k' (by omega) (by omega) (by omega) (by omega))
      omega
theorem sm_add (f g : Nat → Nat) : ∀ m i, sm (fun k => f k + g k) i m = sm f i m + sm g i m := by
  intro m
  induction m with
  | zero => intro i; rfl
  | succ m ih => intro i; rw [sm, sm, sm, ih]; omega
theorem sm_cf (P : Nat → Bool) : ∀ m i, sm (fun k => if P k then 1 else 0) i m = cf P i m := by
  intro m
  induction m with
  | zero => intro i; rfl
  | succ m ih => intro i; rw [sm, cf, ih]
theorem sm_swap (P : Nat → Nat → Bool) (K : Nat) : ∀ m i, sm (fun k => cf (P k) i m) 0 K = sm (fun s => cf (fun k => P k s) 0 K) i m := by
  intro m
  induction m with
  | zero =>
    intro i
    have : ∀ K i, sm (fun _ => 0) i K = 0 := by
      intro K
      induction K with
      | zero => intro i; rfl
      | succ K ih => intro i; rw [sm, ih]
    exact this K 0
  | succ m ih =>
    intro i
    have e : (fun k => cf (P k) i (m + 1)) = (fun k => (if P k i then 1 else 0) + cf (P k) (i + 1) m) := rfl
    rw [e, sm_add, ih, sm_cf, sm]
theorem sm_le {f g : Nat → Nat} : ∀ m i, (∀ k, i ≤ k → k < i + m → f k ≤ g k) → sm f i m ≤ sm g i m := by
  intro m
  induction m with
  | zero => intro i _; exact Nat.le_refl _
  | succ m ih =>
    intro i h
    have := h i (by omega) (by omega)
    have := ih (i + 1) (fun k h1 h2 => h k (by omega) (by omega))
    rw [sm, sm]; omega
theorem sm_const (c : Nat) : ∀ m i, sm (fun _ => c) i m = c * m := by
  intro m
  induction m with
  | zero => intro i; rfl
  | succ m ih => intro i; rw [sm, ih, Nat.mul_succ]; omega
theorem sm_mul (c : Nat) (f : Nat → Nat) : ∀ m i, sm (fun k => c * f k) i m = c * sm f i m := by
  intro m
  induction m with
  | zero => intro i; rfl
  | succ m ih => intro i; rw [sm, ih, sm, Nat.mul_add]
theorem slE_len {F : Nat → Int32} {n a k s : Nat} (h : ∀ s, s < a → SlI n F s) (hs : s < a) : (slE F k s).length ≤ 2 * (if onK F k s then 1 else 0) := by
  unfold slE
  by_cases ho : onK F k s = true
  · rw [if_pos ho, if_pos ho, fl_len]
    have : sm (fun w => [((k, some (s, w)) : En)].length) 0 (nn (F (5 + 3 * s + 2))) = 1 * nn (F (5 + 3 * s + 2)) := sm_const 1 _ _
    rw [this]
    rcases (h s hs).2 with z | z
    · rw [z, nn_ι (by omega)]; omega
    · rw [z, nn_ι (by omega)]; omega
  · rw [if_neg ho]; exact Nat.zero_le _
theorem ordE_len {F : Nat → Int32} {n a : Nat} (hn : n ≤ 60) (ha : a ≤ 12) (h : ∀ s, s < a → SlI n F s) : (ordE F n a).length ≤ 144 := by
  unfold ordE
  rw [fl_len]
  have h1 : sm (fun k => (kE F a k).length) 0 (2 * n) ≤ sm (fun k => 1 + 2 * cf (onK F k) 0 a) 0 (2 * n) := by
    refine sm_le _ _ fun k _ _ => ?_
    unfold kE
    by_cases hp : pB F (k / 2) = true
    · rw [if_pos hp]
      unfold sdE
      rw [List.length_cons, fl_len]
      have := sm_le (f := fun s => (slE F k s).length) (g := fun s => 2 * (if onK F k s then 1 else 0)) a 0 (fun s _ hs => slE_len h (by omega))
      rw [sm_mul, sm_cf] at this
      omega
    · rw [if_neg hp]; exact Nat.zero_le _
  rw [sm_add, sm_const, sm_mul, sm_swap] at h1
  have h2 : sm (fun s => cf (fun k => onK F k s) 0 (2 * n)) 0 a ≤ sm (fun _ => 1) 0 a := by
    refine sm_le _ _ fun s _ hs => ?_
    refine cf_one' _ _ fun k k' _ h2 _ h4 h5 h6 => ?_
    exact onK_uniq hn h (by omega) (by omega) (by omega) h5 h6
  rw [sm_const] at h2
  omega
