/-! the least long open road between two: 0 none, else its number and one -/
def btw (K : Cty) (r p q : Nat) : Bool := decide ((cA K r = p ∧ cB K r = q) ∨ (cA K r = q ∧ cB K r = p))
def sBt (K : Cty) (H : Nat → Nat) (X p q : Nat) : Nat → Nat
  | 0 => 0
  | n + 1 => if X.testBit n = false ∧ btw K n p q = true ∧ (sBt K H X p q n = 0 ∨ H n < H (sBt K H X p q n - 1)) then n + 1 else sBt K H X p q n
theorem sBt_le {K : Cty} {H : Nat → Nat} {X p q : Nat} : ∀ n, sBt K H X p q n ≤ n := by
  intro n
  induction n with
  | zero => exact Nat.le_refl _
  | succ n ih =>
    show (if _ then n + 1 else sBt K H X p q n) ≤ n + 1
    by_cases c : X.testBit n = false ∧ btw K n p q = true ∧ (sBt K H X p q n = 0 ∨ H n < H (sBt K H X p q n - 1))
    · rw [if_pos c]; exact Nat.le_refl _
    · rw [if_neg c]; omega
/-- it is open, and between them -/
theorem sBt_is {K : Cty} {H : Nat → Nat} {X p q : Nat} : ∀ n, sBt K H X p q n ≠ 0 → X.testBit (sBt K H X p q n - 1) = false ∧ btw K (sBt K H X p q n - 1) p q = true := by
  intro n
  induction n with
  | zero => intro h; exact absurd rfl h
  | succ n ih =>
    show (if X.testBit n = false ∧ btw K n p q = true ∧ (sBt K H X p q n = 0 ∨ H n < H (sBt K H X p q n - 1)) then n + 1 else sBt K H X p q n) ≠ 0 → X.testBit ((if X.testBit n = false ∧ btw K n p q = true ∧ (sBt K H X p q n = 0 ∨ H n < H (sBt K H X p q n - 1)) then n + 1 else sBt K H X p q n) - 1) = false ∧ btw K ((if X.testBit n = false ∧ btw K n p q = true ∧ (sBt K H X p q n = 0 ∨ H n < H (sBt K H X p q n - 1)) then n + 1 else sBt K H X p q n) - 1) p q = true
    by_cases c : X.testBit n = false ∧ btw K n p q = true ∧ (sBt K H X p q n = 0 ∨ H n < H (sBt K H X p q n - 1))
    · rw [if_pos c, Nat.add_sub_cancel]; intro _; exact ⟨c.1, c.2.1⟩
    · rw [if_neg c]; exact ih
theorem isBetween_ok {N r p q : Nat} {K : Cty} {σ : sgS} (okk : okK K) (hK : CK K σ) (hr : r < cR K) (hp : p < 100) (hq : q < 100) : f_X0_isBetween N 3 (nI r) (nI p) (nI q) σ = some (if btw K r p q then 1 else 0) := by
  have hr12 := okk.2.1
  have hp7 := okk.1
  have hc := okk.2.2.2.2.2.2.1 r hr
  obtain ⟨a1, a2, -, -⟩ := hK.2.2.2.2.2.1 r hr
  unfold f_X0_isBetween f_X0_isBetween_B20 btw
  by_cases c1 : cA K r = p
  · by_cases c2 : cB K r = q
    · simp (disch := omega) only [sg_cr, sg_cl, sg_lb, sg_pf, sg_pl, sg_nz, sg_nzl, sg_nar0, sg_nar1, lt_T, lt_F, le_T, le_F, eq_T, eq_F, ltL_T, ltL_F, leL_T, leL_F, eqL_T, eqL_F, Llt_T, Llt_F, Lle_T, Lle_F, Leq_T, Leq_F, n10_F, n01_F, le0_F, lt0_T, le0_T, eq0_F, lt1_F, nJ_not_neg, nJ_ne_neg, nJ_neg_lt, nJ_neg_le, nJ_le_neg, ↓reduceIte, ld_ok, st_ok, rf_ok, ld_okL, st_okL, nJ_add, nJ_addL, nJ_Ladd, nJ_mul, nJ_mulL, nJ_Lmul, a1, a2]
      rw [if_pos (by rw [decide_eq_true_eq]; exact Or.inl ⟨c1, c2⟩)]
    · by_cases c3 : cA K r = q ∧ cB K r = p
      · obtain ⟨c3, c4⟩ := c3
        simp (disch := omega) only [sg_cr, sg_cl, sg_lb, sg_pf, sg_pl, sg_nz, sg_nzl, sg_nar0, sg_nar1, lt_T, lt_F, le_T, le_F, eq_T, eq_F, ltL_T, ltL_F, leL_T, leL_F, eqL_T, eqL_F, Llt_T, Llt_F, Lle_T, Lle_F, Leq_T, Leq_F, n10_F, n01_F, le0_F, lt0_T, le0_T, eq0_F, lt1_F, nJ_not_neg, nJ_ne_neg, nJ_neg_lt, nJ_neg_le, nJ_le_neg, ↓reduceIte, ld_ok, st_ok, rf_ok, ld_okL, st_okL, nJ_add, nJ_addL, nJ_Ladd, nJ_mul, nJ_mulL, nJ_Lmul, a1, a2]
        rw [if_pos (by rw [decide_eq_true_eq]; exact Or.inr ⟨c3, c4⟩)]
      · by_cases c4 : cA K r = q
        · simp (disch := omega) only [sg_cr, sg_cl, sg_lb, sg_pf, sg_pl, sg_nz, sg_nzl, sg_nar0, sg_nar1, lt_T, lt_F, le_T, le_F, eq_T, eq_F, ltL_T, ltL_F, leL_T, leL_F, eqL_T, eqL_F, Llt_T, Llt_F, Lle_T, Lle_F, Leq_T, Leq_F, n10_F, n01_F, le0_F, lt0_T, le0_T, eq0_F, lt1_F, nJ_not_neg, nJ_ne_neg, nJ_neg_lt, nJ_neg_le, nJ_le_neg, ↓reduceIte, ld_ok, st_ok, rf_ok, ld_okL, st_okL, nJ_add, nJ_addL, nJ_Ladd, nJ_mul, nJ_mulL, nJ_Lmul, a1, a2]
          rw [if_neg (by rw [decide_eq_true_eq]; omega)]
        · simp (disch := omega) only [sg_cr, sg_cl, sg_lb, sg_pf, sg_pl, sg_nz, sg_nzl, sg_nar0, sg_nar1, lt_T, lt_F, le_T, le_F, eq_T, eq_F, ltL_T, ltL_F, leL_T, leL_F, eqL_T, eqL_F, Llt_T, Llt_F, Lle_T, Lle_F, Leq_T, Leq_F, n10_F, n01_F, le0_F, lt0_T, le0_T, eq0_F, lt1_F, nJ_not_neg, nJ_ne_neg, nJ_neg_lt, nJ_neg_le, nJ_le_neg, ↓reduceIte, ld_ok, st_ok, rf_ok, ld_okL, st_okL, nJ_add, nJ_addL, nJ_Ladd, nJ_mul, nJ_mulL, nJ_Lmul, a1, a2]
          rw [if_neg (by rw [decide_eq_true_eq]; omega)]
  · by_cases c3 : cA K r = q
    · by_cases c4 : cB K r = p
      · simp (disch := omega) only [sg_cr, sg_cl, sg_lb, sg_pf, sg_pl, sg_nz, sg_nzl, sg_nar0, sg_nar1, lt_T, lt_F, le_T, le_F, eq_T, eq_F, ltL_T, ltL_F, leL_T, leL_F, eqL_T, eqL_F, Llt_T, Llt_F, Lle_T, Lle_F, Leq_T, Leq_F, n10_F, n01_F, le0_F, lt0_T, le0_T, eq0_F, lt1_F, nJ_not_neg, nJ_ne_neg, nJ_neg_lt, nJ_neg_le, nJ_le_neg, ↓reduceIte, ld_ok, st_ok, rf_ok, ld_okL, st_okL, nJ_add, nJ_addL, nJ_Ladd, nJ_mul, nJ_mulL, nJ_Lmul, a1, a2]
        rw [if_pos (by rw [decide_eq_true_eq]; exact Or.inr ⟨c3, c4⟩)]
      · simp (disch := omega) only [sg_cr, sg_cl, sg_lb, sg_pf, sg_pl, sg_nz, sg_nzl, sg_nar0, sg_nar1, lt_T, lt_F, le_T, le_F, eq_T, eq_F, ltL_T, ltL_F, leL_T, leL_F, eqL_T, eqL_F, Llt_T, Llt_F, Lle_T, Lle_F, Leq_T, Leq_F, n10_F, n01_F, le0_F, lt0_T, le0_T, eq0_F, lt1_F, nJ_not_neg, nJ_ne_neg, nJ_neg_lt, nJ_neg_le, nJ_le_neg, ↓reduceIte, ld_ok, st_ok, rf_ok, ld_okL, st_okL, nJ_add, nJ_addL, nJ_Ladd, nJ_mul, nJ_mulL, nJ_Lmul, a1, a2]
        rw [if_neg (by rw [decide_eq_true_eq]; omega)]
    · simp (disch := omega) only [sg_cr, sg_cl, sg_lb, sg_pf, sg_pl, sg_nz, sg_nzl, sg_nar0, sg_nar1, lt_T, lt_F, le_T, le_F, eq_T, eq_F, ltL_T, ltL_F, leL_T, leL_F, eqL_T, eqL_F, Llt_T, Llt_F, Lle_T, Lle_F, Leq_T, Leq_F, n10_F, n01_F, le0_F, lt0_T, le0_T, eq0_F, lt1_F, nJ_not_neg, nJ_ne_neg, nJ_neg_lt, nJ_neg_le, nJ_le_neg, ↓reduceIte, ld_ok, st_ok, rf_ok, ld_okL, st_okL, nJ_add, nJ_addL, nJ_Ladd, nJ_mul, nJ_mulL, nJ_Lmul, a1, a2]
      rw [if_neg (by rw [decide_eq_true_eq]; omega)]
theorem joins_ok {N r p q : Nat} {K : Cty} {τ : sgS} (okk : okK K) (hK : MK K τ) (hr : r < cR K) (hp : p < 100) (hq : q < 100) : f_X12_joins N (nI r) (nI p) (nI q) τ = some (if btw K r p q then 1 else 0) := by
  have hr12 := okk.2.1
  have hp7 := okk.1
  have hc := okk.2.2.2.2.2.2.1 r hr
  obtain ⟨a1, a2, -, -⟩ := hK.2.2.2.2.2.1 r hr
  have o0 : f_X12_of N (nI r) 0 τ = some (nI (cA K r)) := of_ok (k := 0) (by omega) a1
  have o1 : f_X12_of N (nI r) 1 τ = some (nI (cB K r)) := of_ok (k := 1) (by omega) a2
  unfold f_X12_joins f_X12_joins_B20 btw
  by_cases c1 : cA K r = p
  · by_cases c2 : cB K r = q
    · simp (disch := omega) only [sg_cr, sg_cl, sg_lb, sg_pf, sg_pl, sg_nz, sg_nzl, sg_nar0, sg_nar1, lt_T, lt_F, le_T, le_F, eq_T, eq_F, ltL_T, ltL_F, leL_T, leL_F, eqL_T, eqL_F, Llt_T, Llt_F, Lle_T, Lle_F, Leq_T, Leq_F, n10_F, n01_F, le0_F, lt0_T, le0_T, eq0_F, lt1_F, nJ_not_neg, nJ_ne_neg, nJ_neg_lt, nJ_neg_le, nJ_le_neg, ↓reduceIte, ld_ok, st_ok, rf_ok, ld_okL, st_okL, nJ_add, nJ_addL, nJ_Ladd, nJ_mul, nJ_mulL, nJ_Lmul, o0, o1]
      rw [if_pos (by rw [decide_eq_true_eq]; exact Or.inl ⟨c1, c2⟩)]
    · by_cases c3 : cA K r = q ∧ cB K r = p
      · obtain ⟨c3, c4⟩ := c3
        simp (disch := omega) only [sg_cr, sg_cl, sg_lb, sg_pf, sg_pl, sg_nz, sg_nzl, sg_nar0, sg_nar1, lt_T, lt_F, le_T, le_F, eq_T, eq_F, ltL_T, ltL_F, leL_T, leL_F, eqL_T, eqL_F, Llt_T, Llt_F, Lle_T, Lle_F, Leq_T, Leq_F, n10_F, n01_F, le0_F, lt0_T, le0_T, eq0_F, lt1_F, nJ_not_neg, nJ_ne_neg, nJ_neg_lt, nJ_neg_le, nJ_le_neg, ↓reduceIte, ld_ok, st_ok, rf_ok, ld_okL, st_okL, nJ_add, nJ_addL, nJ_Ladd, nJ_mul, nJ_mulL, nJ_Lmul, o0, o1]
        rw [if_pos (by rw [decide_eq_true_eq]; exact Or.inr ⟨c3, c4⟩)]
      · by_cases c4 : cA K r = q
        · simp (disch := omega) only [sg_cr, sg_cl, sg_lb, sg_pf, sg_pl, sg_nz, sg_nzl, sg_nar0, sg_nar1, lt_T, lt_F, le_T, le_F, eq_T, eq_F, ltL_T, ltL_F, leL_T, leL_F, eqL_T, eqL_F, Llt_T, Llt_F, Lle_T, Lle_F, Leq_T, Leq_F, n10_F, n01_F, le0_F, lt0_T, le0_T, eq0_F, lt1_F, nJ_not_neg, nJ_ne_neg, nJ_neg_lt, nJ_neg_le, nJ_le_neg, ↓reduceIte, ld_ok, st_ok, rf_ok, ld_okL, st_okL, nJ_add, nJ_addL, nJ_Ladd, nJ_mul, nJ_mulL, nJ_Lmul, o0, o1]
          rw [if_neg (by rw [decide_eq_true_eq]; omega)]
        · simp (disch := omega) only [sg_cr, sg_cl, sg_lb, sg_pf, sg_pl, sg_nz, sg_nzl, sg_nar0, sg_nar1, lt_T, lt_F, le_T, le_F, eq_T, eq_F, ltL_T, ltL_F, leL_T, leL_F, eqL_T, eqL_F, Llt_T, Llt_F, Lle_T, Lle_F, Leq_T, Leq_F, n10_F, n01_F, le0_F, lt0_T, le0_T, eq0_F, lt1_F, nJ_not_neg, nJ_ne_neg, nJ_neg_lt, nJ_neg_le, nJ_le_neg, ↓reduceIte, ld_ok, st_ok, rf_ok, ld_okL, st_okL, nJ_add, nJ_addL, nJ_Ladd, nJ_mul, nJ_mulL, nJ_Lmul, o0, o1]
          rw [if_neg (by rw [decide_eq_true_eq]; omega)]
  · by_cases c3 : cA K r = q
    · by_cases c4 : cB K r = p
      · simp (disch := omega) only [sg_cr, sg_cl, sg_lb, sg_pf, sg_pl, sg_nz, sg_nzl, sg_nar0, sg_nar1, lt_T, lt_F, le_T, le_F, eq_T, eq_F, ltL_T, ltL_F, leL_T, leL_F, eqL_T, eqL_F, Llt_T, Llt_F, Lle_T, Lle_F, Leq_T, Leq_F, n10_F, n01_F, le0_F, lt0_T, le0_T, eq0_F, lt1_F, nJ_not_neg, nJ_ne_neg, nJ_neg_lt, nJ_neg_le, nJ_le_neg, ↓reduceIte, ld_ok, st_ok, rf_ok, ld_okL, st_okL, nJ_add, nJ_addL, nJ_Ladd, nJ_mul, nJ_mulL, nJ_Lmul, o0, o1]
        rw [if_pos (by rw [decide_eq_true_eq]; exact Or.inr ⟨c3, c4⟩)]
      · simp (disch := omega) only [sg_cr, sg_cl, sg_lb, sg_pf, sg_pl, sg_nz, sg_nzl, sg_nar0, sg_nar1, lt_T, lt_F, le_T, le_F, eq_T, eq_F, ltL_T, ltL_F, leL_T, leL_F, eqL_T, eqL_F, Llt_T, Llt_F, Lle_T, Lle_F, Leq_T, Leq_F, n10_F, n01_F, le0_F, lt0_T, le0_T, eq0_F, lt1_F, nJ_not_neg, nJ_ne_neg, nJ_neg_lt, nJ_neg_le, nJ_le_neg, ↓reduceIte, ld_ok, st_ok, rf_ok, ld_okL, st_okL, nJ_add, nJ_addL, nJ_Ladd, nJ_mul, nJ_mulL, nJ_Lmul, o0, o1]
        rw [if_neg (by rw [decide_eq_true_eq]; omega)]
    · simp (disch := omega) only [sg_cr, sg_cl, sg_lb, sg_pf, sg_pl, sg_nz, sg_nzl, sg_nar0, sg_nar1, lt_T, lt_F, le_T, le_F, eq_T, eq_F, ltL_T, ltL_F, leL_T, leL_F, eqL_T, eqL_F, Llt_T, Llt_F, Lle_T, Lle_F, Leq_T, Leq_F, n10_F, n01_F, le0_F, lt0_T, le0_T, eq0_F, lt1_F, nJ_not_neg, nJ_ne_neg, nJ_neg_lt, nJ_neg_le, nJ_le_neg, ↓reduceIte, ld_ok, st_ok, rf_ok, ld_okL, st_okL, nJ_add, nJ_addL, nJ_Ladd, nJ_mul, nJ_mulL, nJ_Lmul, o0, o1]
      rw [if_neg (by rw [decide_eq_true_eq]; omega)]
theorem bit01 {b : Bool} : ((if b = true then (1 : Int32) else 0) = 0) = (b = false) := by cases b <;> simp
theorem shortest_ok {N p q X : Nat} {K : Cty} {H : Nat → Nat} {σ : sgS} (hN : 10000 ≤ N) (okk : okK K) (hK : CK K σ) (hH : ∀ r, r < cR K → σ.1 51 r = nI (H r) ∧ H r < 100) (hp : p < 100) (hq : q < 100) : f_X1_shortestBetween N (nI p) (nI q) (nI X) σ = some (wI (sBt K H X p q (cR K))) := by
  have hr12 := okk.2.1
  have key := lp_for (b := fun x : Int32 × Int32 => f_X1_shortestBetween_L6 N (nI p) (nI q) (nI X) x.1 x.2 σ) (fun k => (wI (sBt K H X p q k), nI k)) (cR K) (wI (sBt K H X p q (cR K))) (fun k hk => by
    show f_X1_shortestBetween_L6 N (nI p) (nI q) (nI X) (wI (sBt K H X p q k)) (nI k) σ = some (.inr (.inl (wI (if _ then k + 1 else sBt K H X p q k), nI (k + 1))))
    have hle := sBt_le (K := K) (H := H) (X := X) (p := p) (q := q) k
    unfold f_X1_shortestBetween_L6 f_X1_shortestBetween_L6_B46
    rw [hK.2.1, isBetween_ok okk hK hk hp hq, shr_nI (by omega)]
    simp (disch := omega) only [sg_cr, sg_cl, sg_lb, sg_pf, sg_pl, sg_nz, sg_nzl, sg_nar0, sg_nar1, lt_T, lt_F, le_T, le_F, eq_T, eq_F, ltL_T, ltL_F, leL_T, leL_F, eqL_T, eqL_F, Llt_T, Llt_F, Lle_T, Lle_F, Leq_T, Leq_F, n10_F, n01_F, le0_F, lt0_T, le0_T, eq0_F, lt1_F, nJ_not_neg, nJ_ne_neg, nJ_neg_lt, nJ_neg_le, nJ_le_neg, ↓reduceIte, ld_ok, st_ok, rf_ok, ld_okL, st_okL, nJ_add, nJ_addL, nJ_Ladd, nJ_mul, nJ_mulL, nJ_Lmul, bit01]
    by_cases c1 : X.testBit k = false
    · by_cases c2 : btw K k p q = true
      · by_cases c3 : sBt K H X p q k = 0
        · simp (disch := omega) only [sg_cr, sg_cl, sg_lb, sg_pf, sg_pl, sg_nz, sg_nzl, sg_nar0, sg_nar1, lt_T, lt_F, le_T, le_F, eq_T, eq_F, ltL_T, ltL_F, leL_T, leL_F, eqL_T, eqL_F, Llt_T, Llt_F, Lle_T, Lle_F, Leq_T, Leq_F, n10_F, n01_F, le0_F, lt0_T, le0_T, eq0_F, lt1_F, nJ_not_neg, nJ_ne_neg, nJ_neg_lt, nJ_neg_le, nJ_le_neg, ↓reduceIte, ld_ok, st_ok, rf_ok, ld_okL, st_okL, nJ_add, nJ_addL, nJ_Ladd, nJ_mul, nJ_mulL, nJ_Lmul, c1, c2, c3, wI_0, true_or, and_self, wI_s, Bool.true_eq_false, Bool.false_eq_true]
        · obtain ⟨b, hb⟩ : ∃ b, sBt K H X p q k = b + 1 := ⟨sBt K H X p q k - 1, by omega⟩
          rw [hb] at hle ⊢
          have e1 := hH k hk
          have e2 := hH b (by omega)
          by_cases c4 : H k < H b
          · simp (disch := omega) only [sg_cr, sg_cl, sg_lb, sg_pf, sg_pl, sg_nz, sg_nzl, sg_nar0, sg_nar1, lt_T, lt_F, le_T, le_F, eq_T, eq_F, ltL_T, ltL_F, leL_T, leL_F, eqL_T, eqL_F, Llt_T, Llt_F, Lle_T, Lle_F, Leq_T, Leq_F, n10_F, n01_F, le0_F, lt0_T, le0_T, eq0_F, lt1_F, nJ_not_neg, nJ_ne_neg, nJ_neg_lt, nJ_neg_le, nJ_le_neg, ↓reduceIte, ld_ok, st_ok, rf_ok, ld_okL, st_okL, nJ_add, nJ_addL, nJ_Ladd, nJ_mul, nJ_mulL, nJ_Lmul, c1, c2, wI_s, e1.1, e2.1, Nat.add_sub_cancel, c4, or_true, and_self, Bool.true_eq_false]
          · simp (disch := omega) only [sg_cr, sg_cl, sg_lb, sg_pf, sg_pl, sg_nz, sg_nzl, sg_nar0, sg_nar1, lt_T, lt_F, le_T, le_F, eq_T, eq_F, ltL_T, ltL_F, leL_T, leL_F, eqL_T, eqL_F, Llt_T, Llt_F, Lle_T, Lle_F, Leq_T, Leq_F, n10_F, n01_F, le0_F, lt0_T, le0_T, eq0_F, lt1_F, nJ_not_neg, nJ_ne_neg, nJ_neg_lt, nJ_neg_le, nJ_le_neg, ↓reduceIte, ld_ok, st_ok, rf_ok, ld_okL, st_okL, nJ_add, nJ_addL, nJ_Ladd, nJ_mul, nJ_mulL, nJ_Lmul, c1, c2, wI_s, e1.1, e2.1, Nat.add_sub_cancel, c4, or_false, true_and, Bool.true_eq_false, Nat.add_one_ne_zero]
      · have c2 : btw K k p q = false := by simpa using c2
        simp (disch := omega) only [sg_cr, sg_cl, sg_lb, sg_pf, sg_pl, sg_nz, sg_nzl, sg_nar0, sg_nar1, lt_T, lt_F, le_T, le_F, eq_T, eq_F, ltL_T, ltL_F, leL_T, leL_F, eqL_T, eqL_F, Llt_T, Llt_F, Lle_T, Lle_F, Leq_T, Leq_F, n10_F, n01_F, le0_F, lt0_T, le0_T, eq0_F, lt1_F, nJ_not_neg, nJ_ne_neg, nJ_neg_lt, nJ_neg_le, nJ_le_neg, ↓reduceIte, ld_ok, st_ok, rf_ok, ld_okL, st_okL, nJ_add, nJ_addL, nJ_Ladd, nJ_mul, nJ_mulL, nJ_Lmul, c1, c2, Bool.false_eq_true, false_and, and_false]
    · have c1 : X.testBit k = true := by simpa using c1
      simp (disch := omega) only [sg_cr, sg_cl, sg_lb, sg_pf, sg_pl, sg_nz, sg_nzl, sg_nar0, sg_nar1, lt_T, lt_F, le_T, le_F, eq_T, eq_F, ltL_T, ltL_F, leL_T, leL_F, eqL_T, eqL_F, Llt_T, Llt_F, Lle_T, Lle_F, Leq_T, Leq_F, n10_F, n01_F, le0_F, lt0_T, le0_T, eq0_F, lt1_F, nJ_not_neg, nJ_ne_neg, nJ_neg_lt, nJ_neg_le, nJ_le_neg, ↓reduceIte, ld_ok, st_ok, rf_ok, ld_okL, st_okL, nJ_add, nJ_addL, nJ_Ladd, nJ_mul, nJ_mulL, nJ_Lmul, c1, Bool.true_eq_false, false_and]) (by
    show f_X1_shortestBetween_L6 N (nI p) (nI q) (nI X) _ (nI (cR K)) σ = _
    unfold f_X1_shortestBetween_L6
    rw [hK.2.1]
    simp (disch := omega) only [sg_cr, sg_cl, sg_lb, sg_pf, sg_pl, sg_nz, sg_nzl, sg_nar0, sg_nar1, lt_T, lt_F, le_T, le_F, eq_T, eq_F, ltL_T, ltL_F, leL_T, leL_F, eqL_T, eqL_F, Llt_T, Llt_F, Lle_T, Lle_F, Leq_T, Leq_F, n10_F, n01_F, le0_F, lt0_T, le0_T, eq0_F, lt1_F, nJ_not_neg, nJ_ne_neg, nJ_neg_lt, nJ_neg_le, nJ_le_neg, ↓reduceIte, ld_ok, st_ok, rf_ok, ld_okL, st_okL, nJ_add, nJ_addL, nJ_Ladd, nJ_mul, nJ_mulL, nJ_Lmul]) N 0 (by omega) (by omega)
  unfold f_X1_shortestBetween
  have key : sg_lp (fun x : Int32 × Int32 => f_X1_shortestBetween_L6 N (nI p) (nI q) (nI X) x.1 x.2 σ) N ((-1, 0)) = _ := key
  rw [key]
  rfl
theorem roadBetween_ok {N p q X : Nat} {K : Cty} {H : Nat → Nat} {τ : sgS} (hN : 10000 ≤ N) (okk : okK K) (hK : MK K τ) (hX : τ.1 21 31 = nI X) (hH : ∀ r, r < cR K → τ.1 23 r = nI (H r) ∧ H r < 100) (hp : p < 100) (hq : q < 100) : f_X12_roadBetween N (nI p) (nI q) τ = some (wI (sBt K H X p q (cR K))) := by
  have hr12 := okk.2.1
  have key := lp_for (b := fun x : Int32 × Int32 => f_X12_roadBetween_L5 N (nI p) (nI q) x.1 x.2 τ) (fun k => (wI (sBt K H X p q k), nI k)) (cR K) (wI (sBt K H X p q (cR K))) (fun k hk => by
    show f_X12_roadBetween_L5 N (nI p) (nI q) (wI (sBt K H X p q k)) (nI k) τ = some (.inr (.inl (wI (if _ then k + 1 else sBt K H X p q k), nI (k + 1))))
    have hle := sBt_le (K := K) (H := H) (X := X) (p := p) (q := q) k
    have hcl : f_X12_isClosed N (nI k) τ = some (if X.testBit k then 1 else 0) := by
      unfold f_X12_isClosed
      rw [ld_okL (by decide) (by decide), hX, has_nI (by omega)]
      cases X.testBit k <;> rfl
    unfold f_X12_roadBetween_L5
    rw [hK.2.1, hcl, joins_ok okk hK hk hp hq]
    simp (disch := omega) only [sg_cr, sg_cl, sg_lb, sg_pf, sg_pl, sg_nz, sg_nzl, sg_nar0, sg_nar1, lt_T, lt_F, le_T, le_F, eq_T, eq_F, ltL_T, ltL_F, leL_T, leL_F, eqL_T, eqL_F, Llt_T, Llt_F, Lle_T, Lle_F, Leq_T, Leq_F, n10_F, n01_F, le0_F, lt0_T, le0_T, eq0_F, lt1_F, nJ_not_neg, nJ_ne_neg, nJ_neg_lt, nJ_neg_le, nJ_le_neg, ↓reduceIte, ld_ok, st_ok, rf_ok, ld_okL, st_okL, nJ_add, nJ_addL, nJ_Ladd, nJ_mul, nJ_mulL, nJ_Lmul, bit01]
    by_cases c1 : X.testBit k = false
    · by_cases c2 : btw K k p q = true
      · by_cases c3 : sBt K H X p q k = 0
        · simp (disch := omega) only [sg_cr, sg_cl, sg_lb, sg_pf, sg_pl, sg_nz, sg_nzl, sg_nar0, sg_nar1, lt_T, lt_F, le_T, le_F, eq_T, eq_F, ltL_T, ltL_F, leL_T, leL_F, eqL_T, eqL_F, Llt_T, Llt_F, Lle_T, Lle_F, Leq_T, Leq_F, n10_F, n01_F, le0_F, lt0_T, le0_T, eq0_F, lt1_F, nJ_not_neg, nJ_ne_neg, nJ_neg_lt, nJ_neg_le, nJ_le_neg, ↓reduceIte, ld_ok, st_ok, rf_ok, ld_okL, st_okL, nJ_add, nJ_addL, nJ_Ladd, nJ_mul, nJ_mulL, nJ_Lmul, c1, c2, c3, wI_0, true_or, and_self, wI_s, Bool.true_eq_false, Bool.false_eq_true]
        · obtain ⟨b, hb⟩ : ∃ b, sBt K H X p q k = b + 1 := ⟨sBt K H X p q k - 1, by omega⟩
          rw [hb] at hle ⊢
          have e1 := hH k hk
          have e2 := hH b (by omega)
          by_cases c4 : H k < H b
          · simp (disch := omega) only [sg_cr, sg_cl, sg_lb, sg_pf, sg_pl, sg_nz, sg_nzl, sg_nar0, sg_nar1, lt_T, lt_F, le_T, le_F, eq_T, eq_F, ltL_T, ltL_F, leL_T, leL_F, eqL_T, eqL_F, Llt_T, Llt_F, Lle_T, Lle_F, Leq_T, Leq_F, n10_F, n01_F, le0_F, lt0_T, le0_T, eq0_F, lt1_F, nJ_not_neg, nJ_ne_neg, nJ_neg_lt, nJ_neg_le, nJ_le_neg, ↓reduceIte, ld_ok, st_ok, rf_ok, ld_okL, st_okL, nJ_add, nJ_addL, nJ_Ladd, nJ_mul, nJ_mulL, nJ_Lmul, c1, c2, wI_s, e1.1, e2.1, Nat.add_sub_cancel, c4, or_true, and_self, Bool.true_eq_false]
          · simp (disch := omega) only [sg_cr, sg_cl, sg_lb, sg_pf, sg_pl, sg_nz, sg_nzl, sg_nar0, sg_nar1, lt_T, lt_F, le_T, le_F, eq_T, eq_F, ltL_T, ltL_F, leL_T, leL_F, eqL_T, eqL_F, Llt_T, Llt_F, Lle_T, Lle_F, Leq_T, Leq_F, n10_F, n01_F, le0_F, lt0_T, le0_T, eq0_F, lt1_F, nJ_not_neg, nJ_ne_neg, nJ_neg_lt, nJ_neg_le, nJ_le_neg, ↓reduceIte, ld_ok, st_ok, rf_ok, ld_okL, st_okL, nJ_add, nJ_addL, nJ_Ladd, nJ_mul, nJ_mulL, nJ_Lmul, c1, c2, wI_s, e1.1, e2.1, Nat.add_sub_cancel, c4, or_false, true_and, Bool.true_eq_false, Nat.add_one_ne_zero]
      · have c2 : btw K k p q = false := by simpa using c2
        simp (disch := omega) only [sg_cr, sg_cl, sg_lb, sg_pf, sg_pl, sg_nz, sg_nzl, sg_nar0, sg_nar1, lt_T, lt_F, le_T, le_F, eq_T, eq_F, ltL_T, ltL_F, leL_T, leL_F, eqL_T, eqL_F, Llt_T, Llt_F, Lle_T, Lle_F, Leq_T, Leq_F, n10_F, n01_F, le0_F, lt0_T, le0_T, eq0_F, lt1_F, nJ_not_neg, nJ_ne_neg, nJ_neg_lt, nJ_neg_le, nJ_le_neg, ↓reduceIte, ld_ok, st_ok, rf_ok, ld_okL, st_okL, nJ_add, nJ_addL, nJ_Ladd, nJ_mul, nJ_mulL, nJ_Lmul, c1, c2, Bool.false_eq_true, false_and, and_false]
    · have c1 : X.testBit k = true := by simpa using c1
      simp (disch := omega) only [sg_cr, sg_cl, sg_lb, sg_pf, sg_pl, sg_nz, sg_nzl, sg_nar0, sg_nar1, lt_T, lt_F, le_T, le_F, eq_T, eq_F, ltL_T, ltL_F, leL_T, leL_F, eqL_T, eqL_F, Llt_T, Llt_F, Lle_T, Lle_F, Leq_T, Leq_F, n10_F, n01_F, le0_F, lt0_T, le0_T, eq0_F, lt1_F, nJ_not_neg, nJ_ne_neg, nJ_neg_lt, nJ_neg_le, nJ_le_neg, ↓reduceIte, ld_ok, st_ok, rf_ok, ld_okL, st_okL, nJ_add, nJ_addL, nJ_Ladd, nJ_mul, nJ_mulL, nJ_Lmul, c1, Bool.true_eq_false, false_and]) (by
    show f_X12_roadBetween_L5 N (nI p) (nI q) _ (nI (cR K)) τ = _
    unfold f_X12_roadBetween_L5
    rw [hK.2.1]
    simp (disch := omega) only [sg_cr, sg_cl, sg_lb, sg_pf, sg_pl, sg_nz, sg_nzl, sg_nar0, sg_nar1, lt_T, lt_F, le_T, le_F, eq_T, eq_F, ltL_T, ltL_F, leL_T, leL_F, eqL_T, eqL_F, Llt_T, Llt_F, Lle_T, Lle_F, Leq_T, Leq_F, n10_F, n01_F, le0_F, lt0_T, le0_T, eq0_F, lt1_F, nJ_not_neg, nJ_ne_neg, nJ_neg_lt, nJ_neg_le, nJ_le_neg, ↓reduceIte, ld_ok, st_ok, rf_ok, ld_okL, st_okL, nJ_add, nJ_addL, nJ_Ladd, nJ_mul, nJ_mulL, nJ_Lmul]) N 0 (by omega) (by omega)
  unfold f_X12_roadBetween
  have key : sg_lp (fun x : Int32 × Int32 => f_X12_roadBetween_L5 N (nI p) (nI q) x.1 x.2 τ) N ((-1, 0)) = _ := key
  rw [key]
  rfl
