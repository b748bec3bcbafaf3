/-! HOURS BETWEEN PLACES: 100000 where one can't come -/
def fwD (K : Cty) (H : Nat → Nat) (X i j : Nat) : Nat := if sBt K H X i j (cR K) = 0 then 100000 else H (sBt K H X i j (cR K) - 1)
def fw (K : Cty) (H : Nat → Nat) (X : Nat) : Nat → Nat → Nat → Nat
  | 0, i, j => if i = j then 0 else fwD K H X i j
  | m + 1, i, j => min (fw K H X m i j) (fw K H X m i m + fw K H X m m j)
def fwW (K : Cty) (H : Nat → Nat) (X i j : Nat) : Nat := fw K H X (cP K) i j
/-- what the class has where the reference has v -/
def fwC (v : Nat) : Nat := if v < 100000 then v else 1000000
theorem fw_s {K : Cty} {H : Nat → Nat} {X m i j : Nat} : fw K H X (m + 1) i j = min (fw K H X m i j) (fw K H X m i m + fw K H X m m j) := rfl
theorem fw_ii {K : Cty} {H : Nat → Nat} {X i : Nat} : ∀ m, fw K H X m i i = 0 := by
  intro m
  induction m with
  | zero => exact if_pos rfl
  | succ m ih => rw [fw_s, ih]; omega
theorem sBt_sym {K : Cty} {H : Nat → Nat} {X p q : Nat} : ∀ n, sBt K H X p q n = sBt K H X q p n := by
  intro n
  induction n with
  | zero => rfl
  | succ n ih =>
    show (if X.testBit n = false ∧ btw K n p q = true ∧ (sBt K H X p q n = 0 ∨ H n < H (sBt K H X p q n - 1)) then n + 1 else sBt K H X p q n) = (if X.testBit n = false ∧ btw K n q p = true ∧ (sBt K H X q p n = 0 ∨ H n < H (sBt K H X q p n - 1)) then n + 1 else sBt K H X q p n)
    rw [ih, show btw K n p q = btw K n q p from by unfold btw; rw [decide_eq_decide]; exact Or.comm]
theorem fwD_sym {K : Cty} {H : Nat → Nat} {X i j : Nat} : fwD K H X i j = fwD K H X j i := by unfold fwD; rw [sBt_sym]
theorem fw_sym {K : Cty} {H : Nat → Nat} {X : Nat} : ∀ m i j, fw K H X m i j = fw K H X m j i := by
  intro m
  induction m with
  | zero =>
    intro i j
    show (if i = j then 0 else fwD K H X i j) = (if j = i then 0 else fwD K H X j i)
    by_cases c : i = j
    · rw [if_pos c, if_pos c.symm]
    · rw [if_neg c, if_neg (fun h => c h.symm), fwD_sym]
  | succ m ih => intro i j; rw [fw_s, fw_s, ih i j, ih i m, ih m j, Nat.add_comm]
/-- roads are 1 .. 24 long -/
def okH (K : Cty) (H : Nat → Nat) : Prop := ∀ r, r < cR K → 1 ≤ H r ∧ H r ≤ 24
theorem fwD_bd {K : Cty} {H : Nat → Nat} {X i j : Nat} (h : okH K H) : 1 ≤ fwD K H X i j ∧ fwD K H X i j ≤ 100000 ∧ (fwD K H X i j < 100000 → fwD K H X i j ≤ 24) := by
  have hle := sBt_le (K := K) (H := H) (X := X) (p := i) (q := j) (cR K)
  unfold fwD
  by_cases c : sBt K H X i j (cR K) = 0
  · rw [if_pos c]; omega
  · rw [if_neg c]
    have := h (sBt K H X i j (cR K) - 1) (by omega)
    omega
theorem fw_bd {K : Cty} {H : Nat → Nat} {X : Nat} (h : okH K H) : ∀ m i j, m ≤ 7 → fw K H X m i j ≤ 100000 ∧ (fw K H X m i j < 100000 → fw K H X m i j ≤ 24 * 2 ^ m) := by
  intro m
  induction m with
  | zero =>
    intro i j _
    show (if i = j then 0 else fwD K H X i j) ≤ 100000 ∧ ((if i = j then 0 else fwD K H X i j) < 100000 → (if i = j then 0 else fwD K H X i j) ≤ 24 * 2 ^ 0)
    have := fwD_bd (X := X) (i := i) (j := j) h
    by_cases c : i = j
    · rw [if_pos c]; omega
    · rw [if_neg c]; omega
  | succ m ih =>
    intro i j hm
    have h1 := ih i j (by omega)
    have h2 := ih i m (by omega)
    have h3 := ih m j (by omega)
    rw [fw_s, Nat.pow_succ]
    omega
theorem fw_small {K : Cty} {H : Nat → Nat} {X m i j : Nat} (h : okH K H) (hm : m ≤ 7) : fw K H X m i j ≤ 100000 ∧ (fw K H X m i j < 100000 → fw K H X m i j ≤ 3072) := by
  have h1 := fw_bd (X := X) h m i j hm
  have h2 : 2 ^ m ≤ 2 ^ 7 := Nat.pow_le_pow_right (by decide) hm
  omega
theorem fw_mono {K : Cty} {H : Nat → Nat} {X i j : Nat} : ∀ n m, m ≤ n → fw K H X n i j ≤ fw K H X m i j := by
  intro n
  induction n with
  | zero => intro m h; rw [show m = 0 by omega]; exact Nat.le_refl _
  | succ n ih =>
    intro m h
    by_cases c : m = n + 1
    · rw [c]; exact Nat.le_refl _
    · have := ih m (by omega)
      rw [fw_s]; omega
theorem fw_tri {K : Cty} {H : Nat → Nat} {X : Nat} : ∀ n i j k, k < n → fw K H X n i j ≤ fw K H X n i k + fw K H X n k j := by
  intro n
  induction n with
  | zero => intro i j k h; omega
  | succ n ih =>
    intro i j k h
    have hnn := fw_ii (K := K) (H := H) (X := X) (i := n) n
    by_cases c : k = n
    · subst c
      have e1 : fw K H X (k + 1) i k = fw K H X k i k := by rw [fw_s, hnn]; omega
      have e2 : fw K H X (k + 1) k j = fw K H X k k j := by rw [fw_s, hnn]; omega
      rw [e1, e2, fw_s]; omega
    · have h1 := ih i j k (by omega)
      have h2 := ih n j k (by omega)
      have h3 := ih i n k (by omega)
      rw [fw_s (i := i) (j := j), fw_s (i := i) (j := k), fw_s (i := k) (j := j)]
      omega
theorem fwW_ii {K : Cty} {H : Nat → Nat} {X i : Nat} : fwW K H X i i = 0 := fw_ii _
theorem fwW_sym {K : Cty} {H : Nat → Nat} {X i j : Nat} : fwW K H X i j = fwW K H X j i := fw_sym _ _ _
theorem fwW_tri {K : Cty} {H : Nat → Nat} {X i j k : Nat} (h : k < cP K) : fwW K H X i j ≤ fwW K H X i k + fwW K H X k j := fw_tri _ _ _ _ h
theorem fwW_D {K : Cty} {H : Nat → Nat} {X i j : Nat} : fwW K H X i j ≤ fwD K H X i j := by
  have := fw_mono (K := K) (H := H) (X := X) (i := i) (j := j) (cP K) 0 (Nat.zero_le _)
  refine Nat.le_trans this ?_
  show (if i = j then 0 else fwD K H X i j) ≤ _
  by_cases c : i = j
  · rw [if_pos c]; exact Nat.zero_le _
  · rw [if_neg c]; exact Nat.le_refl _
theorem fwW_bd {K : Cty} {H : Nat → Nat} {X i j : Nat} (okk : okK K) (h : okH K H) : fwW K H X i j ≤ 100000 ∧ (fwW K H X i j < 100000 → fwW K H X i j ≤ 3072) := fw_small h okk.1
theorem fwD_lt {K : Cty} {H : Nat → Nat} {X i j : Nat} (okk : okK K) (h : fwD K H X i j < 100000) : j < cP K ∧ i < cP K ∧ i ≠ j := by
  unfold fwD at h
  by_cases c : sBt K H X i j (cR K) = 0
  · rw [if_pos c] at h; omega
  · have h1 := (sBt_is (K := K) (H := H) (X := X) (p := i) (q := j) (cR K) c).2
    have hle := sBt_le (K := K) (H := H) (X := X) (p := i) (q := j) (cR K)
    have hr : sBt K H X i j (cR K) - 1 < cR K := by omega
    have h2 := okk.2.2.2.2.2.2.1 _ hr
    unfold btw at h1
    rw [decide_eq_true_eq] at h1
    omega
/-- where one can come one goes by a road first -/
theorem fw_step {K : Cty} {H : Nat → Nat} {X : Nat} (okk : okK K) : ∀ m i j, m ≤ cP K → fw K H X m i j < 100000 → i = j ∨ ∃ o, o < cP K ∧ fwD K H X i o < 100000 ∧ fwD K H X i o + fwW K H X o j ≤ fw K H X m i j := by
  intro m
  induction m with
  | zero =>
    intro i j _ h
    by_cases c : i = j
    · exact Or.inl c
    · have e : fw K H X 0 i j = fwD K H X i j := if_neg c
      rw [e] at h ⊢
      exact Or.inr ⟨j, (fwD_lt okk h).1, h, by rw [fwW_ii]; omega⟩
  | succ m ih =>
    intro i j hm h
    rw [fw_s] at h ⊢
    by_cases c : fw K H X m i j ≤ fw K H X m i m + fw K H X m m j
    · rw [Nat.min_eq_left c] at h ⊢
      exact ih i j (by omega) h
    · rw [Nat.min_eq_right (by omega)] at h ⊢
      rcases ih i m (by omega) (by omega) with h1 | ⟨o, h1, h2, h3⟩
      · exfalso
        have := fw_ii (K := K) (H := H) (X := X) (i := m) m
        rw [h1] at c
        omega
      · refine Or.inr ⟨o, h1, h2, ?_⟩
        have t1 := fwW_tri (K := K) (H := H) (X := X) (i := o) (j := j) (k := m) (by omega)
        have t2 : fwW K H X m j ≤ fw K H X m m j := fw_mono _ _ (by omega)
        omega
theorem fwW_step {K : Cty} {H : Nat → Nat} {X i j : Nat} (okk : okK K) (hij : i ≠ j) (h : fwW K H X i j < 100000) : ∃ o, o < cP K ∧ fwD K H X i o < 100000 ∧ fwD K H X i o + fwW K H X o j = fwW K H X i j := by
  rcases fw_step okk (cP K) i j (Nat.le_refl _) h with h1 | ⟨o, h1, h2, h3⟩
  · exact absurd h1 hij
  · refine ⟨o, h1, h2, ?_⟩
    have t1 := fwW_tri (K := K) (H := H) (X := X) (i := i) (j := j) (k := o) h1
    have t2 := fwW_D (K := K) (H := H) (X := X) (i := i) (j := o)
    show fwD K H X i o + fwW K H X o j = fwW K H X i j
    unfold fwW at *
    omega
/-! bits of all roads -/
def opn (K : Cty) (X : Nat) : Nat := (2 ^ cR K - 1) ^^^ X
theorem opn_bit {K : Cty} {X k : Nat} (hX : X < 2 ^ cR K) : (opn K X).testBit k = (decide (k < cR K) && !X.testBit k) := by
  unfold opn
  rw [Nat.testBit_xor, Nat.testBit_two_pow_sub_one]
  by_cases c : k < cR K
  · rw [decide_eq_true c]; cases X.testBit k <;> rfl
  · have : X.testBit k = false := Nat.testBit_lt_two_pow (Nat.lt_of_lt_of_le hX (Nat.pow_le_pow_right (by decide) (by omega)))
    rw [decide_eq_false c, this]; rfl
theorem opn_lt {K : Cty} {X : Nat} (hX : X < 2 ^ cR K) : opn K X < 2 ^ cR K := Nat.xor_lt_two_pow (by have := Nat.one_le_two_pow (n := cR K); omega) hX
theorem bt_xor {x y : Int32} {k : Nat} : bt (x ^^^ y) k = (bt x k ^^ bt y k) := by unfold bt; rw [Int32.toBitVec_xor, BitVec.getLsbD_xor]
theorem bt_and {x y : Int32} {k : Nat} : bt (x &&& y) k = (bt x k && bt y k) := by unfold bt; rw [Int32.toBitVec_and, BitVec.getLsbD_and]
theorem bt_ext {x y : Int32} (h : ∀ k, k < 32 → bt x k = bt y k) : x = y := by
  apply Int32.toBitVec_inj.mp
  exact BitVec.eq_of_getLsbD_eq (fun i hi => h i hi)
theorem bt_m1 {k : Nat} (h : k < 32) : bt (-1) k = true := by
  have key : ∀ k : Fin 32, bt (-1) k.val = true := by decide
  exact key ⟨k, h⟩
/-- some of a and none of b -/
theorem and_not {a b : Nat} : nI a &&& (nI b ^^^ (-1)) = nI (a &&& (a ^^^ b)) := by
  refine bt_ext (fun k hk => ?_)
  rw [bt_and, bt_xor, bt_m1 hk, bt_nI hk, bt_nI hk, bt_nI hk, Nat.testBit_and, Nat.testBit_xor]
  cases a.testBit k <;> cases b.testBit k <;> rfl
theorem all_ok {n : Nat} (h : n ≤ 12) : (1 : Int32) <<< (nI n &&& 31) - 1 = nI (2 ^ n - 1) := by
  rw [shl_1 (by omega), nJ_1, nJ_sub Nat.one_le_two_pow]
theorem opn_ok {K : Cty} {X : Nat} (hr : cR K ≤ 12) (hX : X < 2 ^ cR K) : ((1 : Int32) <<< (nI (cR K) &&& 31) - 1) &&& (nI X ^^^ (-1)) = nI (opn K X) := by
  rw [all_ok hr, and_not]
  congr 1
  apply Nat.eq_of_testBit_eq
  intro k
  rw [opn_bit hX, Nat.testBit_and, Nat.testBit_xor, Nat.testBit_two_pow_sub_one]
  cases decide (k < cR K) <;> cases X.testBit k <;> rfl
