/-! WHOLE NUMBERS as nI k -/
theorem nJ_clamp {n : Nat} (h : n < 2147483648) : (nI n).toNatClampNeg = n := nI_clamp h
theorem nJ_toInt {k : Nat} (h : k < 2147483648) : (nI k).toInt = (k : Int) := Int32.toInt_ofNat_of_lt h
theorem nJ_lt {k n : Nat} (hk : k < 2147483648) (hn : n < 2147483648) : (nI k < nI n) = (k < n) := by
  rw [Int32.lt_iff_toInt_lt, nJ_toInt hk, nJ_toInt hn]; simp
theorem nJ_le {k n : Nat} (hk : k < 2147483648) (hn : n < 2147483648) : (nI k ≤ nI n) = (k ≤ n) := by
  rw [Int32.le_iff_toInt_le, nJ_toInt hk, nJ_toInt hn]; simp
theorem nJ_eq {k n : Nat} (hk : k < 2147483648) (hn : n < 2147483648) : (nI k = nI n) = (k = n) := by
  rw [← Int32.toInt_inj, nJ_toInt hk, nJ_toInt hn]; exact propext Int.ofNat_inj
theorem nJ_add {k n : Nat} : nI k + nI n = nI (k + n) := (Int32.ofNat_add k n).symm
theorem nJ_mul {k n : Nat} : nI k * nI n = nI (k * n) := (Int32.ofNat_mul k n).symm
theorem nJ_sub {k n : Nat} (h : n ≤ k) : nI k - nI n = nI (k - n) := by
  have e : nI k = nI (k - n) + nI n := by rw [nJ_add, Nat.sub_add_cancel h]
  rw [e, Int32.add_sub_cancel]
/-- a literal is nI of it -/
theorem nJ_lit (n : Nat) : (no_index (OfNat.ofNat n : Int32)) = nI (OfNat.ofNat n : Nat) := rfl
theorem nJ_0 : (0 : Int32) = nI 0 := rfl
theorem nJ_1 : (1 : Int32) = nI 1 := rfl
theorem nJ_ltL {k n : Nat} (hk : k < 2147483648) (hn : (OfNat.ofNat n : Nat) < 2147483648) : (nI k < (no_index (OfNat.ofNat n : Int32))) = (k < (OfNat.ofNat n : Nat)) := nJ_lt hk hn
theorem nJ_leL {k n : Nat} (hk : k < 2147483648) (hn : (OfNat.ofNat n : Nat) < 2147483648) : (nI k ≤ (no_index (OfNat.ofNat n : Int32))) = (k ≤ (OfNat.ofNat n : Nat)) := nJ_le hk hn
theorem nJ_eqL {k n : Nat} (hk : k < 2147483648) (hn : (OfNat.ofNat n : Nat) < 2147483648) : (nI k = (no_index (OfNat.ofNat n : Int32))) = (k = (OfNat.ofNat n : Nat)) := nJ_eq hk hn
theorem nJ_Llt {k n : Nat} (hk : k < 2147483648) (hn : (OfNat.ofNat n : Nat) < 2147483648) : ((no_index (OfNat.ofNat n : Int32)) < nI k) = ((OfNat.ofNat n : Nat) < k) := nJ_lt hn hk
theorem nJ_Lle {k n : Nat} (hk : k < 2147483648) (hn : (OfNat.ofNat n : Nat) < 2147483648) : ((no_index (OfNat.ofNat n : Int32)) ≤ nI k) = ((OfNat.ofNat n : Nat) ≤ k) := nJ_le hn hk
theorem nJ_Leq {k n : Nat} (hk : k < 2147483648) (hn : (OfNat.ofNat n : Nat) < 2147483648) : ((no_index (OfNat.ofNat n : Int32)) = nI k) = ((OfNat.ofNat n : Nat) = k) := nJ_eq hn hk
theorem nJ_addL {k n : Nat} : nI k + (no_index (OfNat.ofNat n : Int32)) = nI (k + (OfNat.ofNat n : Nat)) := nJ_add
theorem nJ_Ladd {k n : Nat} : (no_index (OfNat.ofNat n : Int32)) + nI k = nI ((OfNat.ofNat n : Nat) + k) := nJ_add
theorem nJ_subL {k n : Nat} (h : (OfNat.ofNat n : Nat) ≤ k) : nI k - (no_index (OfNat.ofNat n : Int32)) = nI (k - (OfNat.ofNat n : Nat)) := nJ_sub h
theorem nJ_mulL {k n : Nat} : nI k * (no_index (OfNat.ofNat n : Int32)) = nI (k * (OfNat.ofNat n : Nat)) := nJ_mul
theorem nJ_Lmul {k n : Nat} : (no_index (OfNat.ofNat n : Int32)) * nI k = nI ((OfNat.ofNat n : Nat) * k) := nJ_mul
theorem nJ_not_neg {k : Nat} (hk : k < 2147483648) : (nI k < 0) = False := by
  rw [nJ_0, nJ_lt hk (by decide)]; simp
theorem nJ_ne_neg {k : Nat} (hk : k < 2147483648) : (nI k = -1) = False := by
  rw [← Int32.toInt_inj, nJ_toInt hk, show (-1 : Int32).toInt = -1 from by decide]
  exact propext ⟨fun h => by omega, fun h => h.elim⟩
theorem nJ_neg_lt {k : Nat} (hk : k < 2147483648) : ((-1 : Int32) < nI k) = True := by
  rw [Int32.lt_iff_toInt_lt, nJ_toInt hk, show (-1 : Int32).toInt = -1 from by decide]
  exact propext ⟨fun _ => trivial, fun _ => by omega⟩
theorem nJ_neg_le {k : Nat} (hk : k < 2147483648) : ((-1 : Int32) ≤ nI k) = True := by
  rw [Int32.le_iff_toInt_le, nJ_toInt hk, show (-1 : Int32).toInt = -1 from by decide]
  exact propext ⟨fun _ => trivial, fun _ => by omega⟩
theorem nJ_le_neg {k : Nat} (hk : k < 2147483648) : (nI k ≤ -1) = False := by
  rw [Int32.le_iff_toInt_le, nJ_toInt hk, show (-1 : Int32).toInt = -1 from by decide]
  exact propext ⟨fun h => by omega, fun h => h.elim⟩
theorem nJ_div {k n : Nat} (hk : k < 2147483648) (hn : n < 2147483648) : nI k / nI n = nI (k / n) := by
  have h1 : k / n < 2147483648 := Nat.lt_of_le_of_lt (Nat.div_le_self k n) hk
  rw [← Int32.toInt_inj, Int32.toInt_div, nJ_toInt hk, nJ_toInt hn, nJ_toInt h1]
  rw [show Int.tdiv (k : Int) (n : Int) = ((k / n : Nat) : Int) from (Int.ofNat_tdiv k n).symm]
  generalize k / n = z at h1 ⊢
  exact Int.bmod_eq_of_le (by omega) (by omega)
theorem nJ_divL {k n : Nat} (hk : k < 2147483648) (hn : (OfNat.ofNat n : Nat) < 2147483648) : nI k / (no_index (OfNat.ofNat n : Int32)) = nI (k / (OfNat.ofNat n : Nat)) := nJ_div hk hn
/-- what a remainder is to the machine -/
theorem nJ_mod {k n : Nat} (hk : k < 2147483648) (hn : n < 2147483648) : nI k - nI k / nI n * nI n = nI (k % n) := by
  rw [nJ_div hk hn, nJ_mul, nJ_sub (Nat.div_mul_le_self k n)]
  congr 1
  have := Nat.div_add_mod k n
  rw [Nat.mul_comm] at this
  omega
theorem nJ_modL {k n : Nat} (hk : k < 2147483648) (hn : (OfNat.ofNat n : Nat) < 2147483648) : nI k - nI k / (no_index (OfNat.ofNat n : Int32)) * (no_index (OfNat.ofNat n : Int32)) = nI (k % (OfNat.ofNat n : Nat)) := nJ_mod hk hn
/-- an int is below 0, or nI of something -/
theorem nJ_cases (x : Int32) : x < 0 ∨ ∃ k, k < 2147483648 ∧ x = nI k := by
  by_cases h : x < 0
  · exact Or.inl h
  · right
    have h0 : 0 ≤ x.toInt := by
      rw [Int32.lt_iff_toInt_lt, show (0 : Int32).toInt = 0 from by decide] at h
      omega
    have h1 : x.toInt < 2147483648 := Int32.toInt_lt x
    refine ⟨x.toInt.toNat, by omega, ?_⟩
    rw [← Int32.toInt_inj, nJ_toInt (by omega)]
    omega
theorem nJ_rng (x : Int32) (n : Nat) (hn : n < 2147483648) : (∃ k, k < n ∧ x = nI k) ∨ (x < 0 ∨ nI n ≤ x) := by
  rcases nJ_cases x with h | ⟨k, hk, rfl⟩
  · exact Or.inr (Or.inl h)
  · by_cases h : k < n
    · exact Or.inl ⟨k, h, rfl⟩
    · exact Or.inr (Or.inr (by rw [nJ_le hn hk]; omega))
theorem sg_nar0 : vp_nar .boolean 0 = 0 := rfl
theorem sg_nar1 : vp_nar .boolean 1 = 1 := rfl
/-! what a condition comes to, where omega sees it -/
theorem lt_T {k n : Nat} (h : k < n) (hn : n < 2147483648) : (nI k < nI n) = True := by rw [nJ_lt (by omega) hn]; exact eq_true h
theorem lt_F {k n : Nat} (h : n ≤ k) (hk : k < 2147483648) : (nI k < nI n) = False := by rw [nJ_lt hk (by omega)]; exact eq_false (by omega)
theorem le_T {k n : Nat} (h : k ≤ n) (hn : n < 2147483648) : (nI k ≤ nI n) = True := by rw [nJ_le (by omega) hn]; exact eq_true h
theorem le_F {k n : Nat} (h : n < k) (hk : k < 2147483648) : (nI k ≤ nI n) = False := by rw [nJ_le hk (by omega)]; exact eq_false (by omega)
theorem eq_T {k n : Nat} (h : k = n) : (nI k = nI n) = True := by rw [h]; exact eq_true rfl
theorem eq_F {k n : Nat} (h : k ≠ n) (hk : k < 2147483648) (hn : n < 2147483648) : (nI k = nI n) = False := by rw [nJ_eq hk hn]; exact eq_false h
theorem ltL_T {k n : Nat} (h : k < (OfNat.ofNat n : Nat)) (hn : (OfNat.ofNat n : Nat) < 2147483648) : (nI k < (no_index (OfNat.ofNat n : Int32))) = True := lt_T h hn
theorem ltL_F {k n : Nat} (h : (OfNat.ofNat n : Nat) ≤ k) (hk : k < 2147483648) : (nI k < (no_index (OfNat.ofNat n : Int32))) = False := lt_F h hk
theorem leL_T {k n : Nat} (h : k ≤ (OfNat.ofNat n : Nat)) (hn : (OfNat.ofNat n : Nat) < 2147483648) : (nI k ≤ (no_index (OfNat.ofNat n : Int32))) = True := le_T h hn
theorem leL_F {k n : Nat} (h : (OfNat.ofNat n : Nat) < k) (hk : k < 2147483648) : (nI k ≤ (no_index (OfNat.ofNat n : Int32))) = False := le_F h hk
theorem eqL_T {k n : Nat} (h : k = (OfNat.ofNat n : Nat)) : (nI k = (no_index (OfNat.ofNat n : Int32))) = True := eq_T h
theorem eqL_F {k n : Nat} (h : k ≠ (OfNat.ofNat n : Nat)) (hk : k < 2147483648) (hn : (OfNat.ofNat n : Nat) < 2147483648) : (nI k = (no_index (OfNat.ofNat n : Int32))) = False := eq_F h hk hn
theorem Llt_T {k n : Nat} (h : (OfNat.ofNat n : Nat) < k) (hk : k < 2147483648) : ((no_index (OfNat.ofNat n : Int32)) < nI k) = True := lt_T h hk
theorem Llt_F {k n : Nat} (h : k ≤ (OfNat.ofNat n : Nat)) (hn : (OfNat.ofNat n : Nat) < 2147483648) : ((no_index (OfNat.ofNat n : Int32)) < nI k) = False := lt_F h hn
theorem Lle_T {k n : Nat} (h : (OfNat.ofNat n : Nat) ≤ k) (hk : k < 2147483648) : ((no_index (OfNat.ofNat n : Int32)) ≤ nI k) = True := le_T h hk
theorem Lle_F {k n : Nat} (h : k < (OfNat.ofNat n : Nat)) (hn : (OfNat.ofNat n : Nat) < 2147483648) : ((no_index (OfNat.ofNat n : Int32)) ≤ nI k) = False := le_F h hn
theorem Leq_T {k n : Nat} (h : (OfNat.ofNat n : Nat) = k) : ((no_index (OfNat.ofNat n : Int32)) = nI k) = True := eq_T h
theorem Leq_F {k n : Nat} (h : (OfNat.ofNat n : Nat) ≠ k) (hk : k < 2147483648) (hn : (OfNat.ofNat n : Nat) < 2147483648) : ((no_index (OfNat.ofNat n : Int32)) = nI k) = False := eq_F h hn hk
theorem le0_F {k : Nat} (h : 0 < k) (hk : k < 2147483648) : (nI k ≤ (0 : Int32)) = False := le_F h hk
theorem lt0_T {k : Nat} (h : 0 < k) (hk : k < 2147483648) : ((0 : Int32) < nI k) = True := lt_T h hk
theorem le0_T {k : Nat} (hk : k < 2147483648) : ((0 : Int32) ≤ nI k) = True := le_T (Nat.zero_le k) hk
theorem eq0_F {k : Nat} (h : 0 < k) (hk : k < 2147483648) : (nI k = (0 : Int32)) = False := eq_F (Nat.ne_of_gt h) hk (by decide)
theorem lt1_F {k : Nat} (h : 0 < k) (hk : k < 2147483648) : (nI k < (1 : Int32)) = False := lt_F h hk
theorem n01_F : ((0 : Int32) = 1) = False := eq_false (by decide)
theorem n10_F : ((1 : Int32) = 0) = False := eq_false (by decide)
/-! THE COMBINATORS where nothing is wrong -/
section OKS
variable {α : Type}
theorem ld_ok {σ : sgS} {i N k : Nat} {K : Int32 → Option α} (h : k < N) (hN : N < 2147483648) : sg_ld σ i N (nI k) K = K (σ.1 i k) := by
  unfold sg_ld
  rw [nJ_clamp (by omega), if_neg]
  intro hc
  rcases hc with hc | hc
  · rw [nJ_not_neg (by omega)] at hc; exact hc
  · omega
theorem st_ok {σ : sgS} {i N k : Nat} {v : Int32} {K : sgS → Option α} (h : k < N) (hN : N < 2147483648) : sg_st σ i N (nI k) v K = K (sg_up σ i k v) := by
  unfold sg_st
  rw [nJ_clamp (by omega), if_neg]
  intro hc
  rcases hc with hc | hc
  · rw [nJ_not_neg (by omega)] at hc; exact hc
  · omega
theorem rf_ok {N k : Nat} {K : Nat → Option α} (h : k < N) (hN : N < 2147483648) : sg_rf N (nI k) K = K k := by
  unfold sg_rf
  rw [nJ_clamp (by omega), if_neg]
  intro hc
  rcases hc with hc | hc
  · rw [nJ_not_neg (by omega)] at hc; exact hc
  · omega
theorem tb_ok {L : List Int32} {k : Nat} {K : Int32 → Option α} (h : k < L.length) (hN : L.length < 2147483648) : sg_tb L (nI k) K = K (L.getD k 0) := by
  unfold sg_tb
  rw [nJ_clamp (by omega), if_neg]
  intro hc
  rcases hc with hc | hc
  · rw [nJ_not_neg (by omega)] at hc; exact hc
  · omega
theorem ld_okL {σ : sgS} {i N k : Nat} {K : Int32 → Option α} (h : (OfNat.ofNat k : Nat) < N) (hN : N < 2147483648) : sg_ld σ i N (no_index (OfNat.ofNat k : Int32)) K = K (σ.1 i (OfNat.ofNat k)) := ld_ok h hN
theorem st_okL {σ : sgS} {i N k : Nat} {v : Int32} {K : sgS → Option α} (h : (OfNat.ofNat k : Nat) < N) (hN : N < 2147483648) : sg_st σ i N (no_index (OfNat.ofNat k : Int32)) v K = K (sg_up σ i (OfNat.ofNat k) v) := st_ok h hN
theorem cp_ok {σ : sgS} {i N j M sp dp n : Nat} {K : sgS → Option α} (h1 : sp + n ≤ N) (h2 : dp + n ≤ M) (hN : N < 2147483648) (hM : M < 2147483648) : sg_cp σ i N j M (nI sp) (nI dp) (nI n) K = K (sg_row σ j (va_cpy (σ.1 i) (σ.1 j) sp dp n)) := by
  unfold sg_cp
  rw [nJ_clamp (by omega), nJ_clamp (by omega), nJ_clamp (by omega), if_neg]
  rw [nJ_not_neg (by omega), nJ_not_neg (by omega), nJ_not_neg (by omega)]
  simp only [false_or]
  omega
end OKS
theorem up_get (σ : sgS) (i k j q : Nat) (v : Int32) : (sg_up σ i k v).1 j q = if j = i ∧ q = k then v else σ.1 j q := by
  unfold sg_up sg_row
  by_cases hj : j = i
  · subst hj
    simp only [if_pos, true_and]
    rfl
  · simp [hj]
theorem up_snd (σ : sgS) (i k : Nat) (v : Int32) : (sg_up σ i k v).2 = σ.2 := rfl
theorem ul_fst (σ : sgS) (i : Nat) (v : Int64) : (sg_ul σ i v).1 = σ.1 := rfl
theorem row_get (σ : sgS) (i j q : Nat) (f : Nat → Int32) : (sg_row σ i f).1 j q = if j = i then f q else σ.1 j q := by
  unfold sg_row
  by_cases hj : j = i
  · subst hj; simp
  · simp [hj]
theorem cpy_get {α : Type} (f g : Nat → α) (sp dp n k : Nat) : va_cpy f g sp dp n k = if dp ≤ k ∧ k < dp + n then f (sp + (k - dp)) else g k := rfl
/-! LOOPS -/
theorem lp_rule {ρ χ ψ : Type} {b : χ → Option (ρ ⊕ (χ ⊕ ψ))} (Inv : χ → Prop) (m : χ → Nat) (A : ρ → Prop) (C : ψ → Prop) (h : ∀ x, Inv x → ∃ y, b x = some y ∧ sg_k3 A (fun x' => Inv x' ∧ m x' < m x) C y) : ∀ (N : Nat) (x : χ), Inv x → m x < N → ∃ y, sg_lp b N x = some y ∧ sg_k2 A C y := by
  intro N
  induction N with
  | zero => intro x hi hm; omega
  | succ N ih =>
    intro x hi hm
    obtain ⟨y, h1, h2⟩ := h x hi
    unfold sg_lp
    rw [h1]
    match y, h2 with
    | .inl r, h2 => exact ⟨_, rfl, h2⟩
    | .inr (.inl x'), h2 => exact ih x' h2.1 (by have := h2.2; omega)
    | .inr (.inr z), h2 => exact ⟨_, rfl, h2⟩
/-- a loop that only ends at its head, counting k up: what it makes of the state, turn by turn -/
theorem lp_for {ρ χ ψ : Type} {b : χ → Option (ρ ⊕ (χ ⊕ ψ))} (S : Nat → χ) (n : Nat) (E : ψ) (hstep : ∀ k, k < n → b (S k) = some (.inr (.inl (S (k + 1))))) (hend : b (S n) = some (.inr (.inr E))) : ∀ (N k : Nat), k ≤ n → n - k < N → sg_lp b N (S k) = some (.inr E) := by
  intro N
  induction N with
  | zero => intro k h1 h2; omega
  | succ N ih =>
    intro k h1 h2
    unfold sg_lp
    by_cases hk : k < n
    · rw [hstep k hk]
      exact ih (k + 1) (by omega) (by omega)
    · have : k = n := by omega
      subst this
      rw [hend]
theorem lp_step {ρ χ ψ : Type} {b : χ → Option (ρ ⊕ (χ ⊕ ψ))} {N : Nat} {x x' : χ} (h : b x = some (.inr (.inl x'))) : sg_lp b (N + 1) x = sg_lp b N x' := by
  rw [sg_lp, h]
theorem lp_out {ρ χ ψ : Type} {b : χ → Option (ρ ⊕ (χ ⊕ ψ))} {N : Nat} {x : χ} {y : ψ} (h : b x = some (.inr (.inr y))) : sg_lp b (N + 1) x = some (.inr y) := by
  rw [sg_lp, h]
theorem lp_ret {ρ χ ψ : Type} {b : χ → Option (ρ ⊕ (χ ⊕ ψ))} {N : Nat} {x : χ} {r : ρ} (h : b x = some (.inl r)) : sg_lp b (N + 1) x = some (.inl r) := by
  rw [sg_lp, h]
