/-! yes or no -/
theorem in_y {N k n : Nat} {τ : sgS} (h : k < n) (hn : n < 2147483648) : f_X12_in N (nI k) 0 (nI n - 1) τ = some 1 := by
  unfold f_X12_in
  rw [nJ_1, nJ_sub (by omega)]
  simp (disch := omega) only [sg_cr, sg_cl, sg_lb, sg_pf, sg_pl, sg_nz, sg_nzl, sg_nar0, sg_nar1, lt_T, lt_F, le_T, le_F, eq_T, eq_F, ltL_T, ltL_F, leL_T, leL_F, eqL_T, eqL_F, Llt_T, Llt_F, Lle_T, Lle_F, Leq_T, Leq_F, n10_F, n01_F, le0_F, lt0_T, le0_T, eq0_F, lt1_F, nJ_not_neg, nJ_ne_neg, nJ_neg_lt, nJ_neg_le, nJ_le_neg, ↓reduceIte, ld_ok, st_ok, rf_ok, ld_okL, st_okL, nJ_add, nJ_addL, nJ_Ladd, nJ_mul, nJ_mulL, nJ_Lmul]
  rfl
theorem in_n {N n : Nat} {x : Int32} {τ : sgS} (h : x < 0 ∨ nI n ≤ x) (hn : n < 2147483648) : f_X12_in N x 0 (nI n - 1) τ = some 0 := by
  unfold f_X12_in
  by_cases h0 : x < 0
  · rw [if_pos h0]; rfl
  · rw [if_neg h0]
    rcases h with h | h
    · exact absurd h h0
    · rw [if_pos]
      · rfl
      · rcases nJ_cases x with hx | ⟨k, hk, rfl⟩
        · exact absurd hx h0
        · rw [nJ_le hn hk] at h
          by_cases hz : n = 0
          · subst hz; show wI 0 < nI k; rw [wI_0, nJ_neg_lt hk]; trivial
          · rw [nJ_1, nJ_sub (by omega), nJ_lt (by omega) hk]; omega
theorem inL {N m : Nat} {x : Int32} {τ : sgS} (hm : m < 2147483647) : f_X12_in N x 0 (OfNat.ofNat m) τ = f_X12_in N x 0 (nI (m + 1) - 1) τ := by
  rw [nJ_1, nJ_sub (by omega)]
  rfl
theorem hasPlace_y {N o k p : Nat} {σ : sgS} (e : σ.1 o 3 = nI p) (h : k < p) (hp : p < 2147483648) : f_X0_hasPlace N o (nI k) σ = some 1 := by
  unfold f_X0_hasPlace
  simp (disch := omega) only [e, sg_cr, sg_cl, sg_lb, sg_pf, sg_pl, sg_nz, sg_nzl, sg_nar0, sg_nar1, lt_T, lt_F, le_T, le_F, eq_T, eq_F, ltL_T, ltL_F, leL_T, leL_F, eqL_T, eqL_F, Llt_T, Llt_F, Lle_T, Lle_F, Leq_T, Leq_F, n10_F, n01_F, le0_F, lt0_T, le0_T, eq0_F, lt1_F, nJ_not_neg, nJ_ne_neg, nJ_neg_lt, nJ_neg_le, nJ_le_neg, ↓reduceIte, ld_ok, st_ok, rf_ok, ld_okL, st_okL, nJ_add, nJ_addL, nJ_Ladd, nJ_mul, nJ_mulL, nJ_Lmul]
theorem hasPlace_n {N o p : Nat} {x : Int32} {σ : sgS} (e : σ.1 o 3 = nI p) (h : x < 0 ∨ nI p ≤ x) : f_X0_hasPlace N o x σ = some 0 := by
  unfold f_X0_hasPlace
  by_cases h0 : x < 0
  · rw [if_pos h0]; rfl
  · rw [if_neg h0, e, if_pos (h.resolve_left h0)]; rfl
theorem hasRoad_y {N o k p : Nat} {σ : sgS} (e : σ.1 o 4 = nI p) (h : k < p) (hp : p < 2147483648) : f_X0_hasRoad N o (nI k) σ = some 1 := by
  unfold f_X0_hasRoad
  simp (disch := omega) only [e, sg_cr, sg_cl, sg_lb, sg_pf, sg_pl, sg_nz, sg_nzl, sg_nar0, sg_nar1, lt_T, lt_F, le_T, le_F, eq_T, eq_F, ltL_T, ltL_F, leL_T, leL_F, eqL_T, eqL_F, Llt_T, Llt_F, Lle_T, Lle_F, Leq_T, Leq_F, n10_F, n01_F, le0_F, lt0_T, le0_T, eq0_F, lt1_F, nJ_not_neg, nJ_ne_neg, nJ_neg_lt, nJ_neg_le, nJ_le_neg, ↓reduceIte, ld_ok, st_ok, rf_ok, ld_okL, st_okL, nJ_add, nJ_addL, nJ_Ladd, nJ_mul, nJ_mulL, nJ_Lmul]
theorem hasRoad_n {N o p : Nat} {x : Int32} {σ : sgS} (e : σ.1 o 4 = nI p) (h : x < 0 ∨ nI p ≤ x) : f_X0_hasRoad N o x σ = some 0 := by
  unfold f_X0_hasRoad
  by_cases h0 : x < 0
  · rw [if_pos h0]; rfl
  · rw [if_neg h0, e, if_pos (h.resolve_left h0)]; rfl
theorem hasSet_y {N o k p : Nat} {σ : sgS} (e : σ.1 o 5 = nI p) (h : k < p) (hp : p < 2147483648) : f_X0_hasSet N o (nI k) σ = some 1 := by
  unfold f_X0_hasSet
  simp (disch := omega) only [e, sg_cr, sg_cl, sg_lb, sg_pf, sg_pl, sg_nz, sg_nzl, sg_nar0, sg_nar1, lt_T, lt_F, le_T, le_F, eq_T, eq_F, ltL_T, ltL_F, leL_T, leL_F, eqL_T, eqL_F, Llt_T, Llt_F, Lle_T, Lle_F, Leq_T, Leq_F, n10_F, n01_F, le0_F, lt0_T, le0_T, eq0_F, lt1_F, nJ_not_neg, nJ_ne_neg, nJ_neg_lt, nJ_neg_le, nJ_le_neg, ↓reduceIte, ld_ok, st_ok, rf_ok, ld_okL, st_okL, nJ_add, nJ_addL, nJ_Ladd, nJ_mul, nJ_mulL, nJ_Lmul]
theorem hasSet_n {N o p : Nat} {x : Int32} {σ : sgS} (e : σ.1 o 5 = nI p) (h : x < 0 ∨ nI p ≤ x) : f_X0_hasSet N o x σ = some 0 := by
  unfold f_X0_hasSet
  by_cases h0 : x < 0
  · rw [if_pos h0]; rfl
  · rw [if_neg h0, e, if_pos (h.resolve_left h0)]; rfl
theorem has_y {N k p : Nat} {σ : sgS} (e : σ.1 29 4 = nI p) (h : k < p) (hp : p < 2147483648) : f_X10_has N (nI k) σ = some 1 := by
  unfold f_X10_has
  simp (disch := omega) only [e, sg_cr, sg_cl, sg_lb, sg_pf, sg_pl, sg_nz, sg_nzl, sg_nar0, sg_nar1, lt_T, lt_F, le_T, le_F, eq_T, eq_F, ltL_T, ltL_F, leL_T, leL_F, eqL_T, eqL_F, Llt_T, Llt_F, Lle_T, Lle_F, Leq_T, Leq_F, n10_F, n01_F, le0_F, lt0_T, le0_T, eq0_F, lt1_F, nJ_not_neg, nJ_ne_neg, nJ_neg_lt, nJ_neg_le, nJ_le_neg, ↓reduceIte, ld_ok, st_ok, rf_ok, ld_okL, st_okL, nJ_add, nJ_addL, nJ_Ladd, nJ_mul, nJ_mulL, nJ_Lmul]
theorem has_n {N p : Nat} {x : Int32} {σ : sgS} (e : σ.1 29 4 = nI p) (h : x < 0 ∨ nI p ≤ x) : f_X10_has N x σ = some 0 := by
  unfold f_X10_has
  by_cases h0 : x < 0
  · rw [if_pos h0]; rfl
  · rw [if_neg h0, e, if_pos (h.resolve_left h0)]; rfl
theorem isTold_y {N o p : Nat} {σ : sgS} (e : σ.1 o 3 = nI p) (h : p ≠ 0) (hp : p < 2147483648) : f_X0_isTold N o σ = some 1 := by
  unfold f_X0_isTold
  simp (disch := omega) only [e, sg_cr, sg_cl, sg_lb, sg_pf, sg_pl, sg_nz, sg_nzl, sg_nar0, sg_nar1, lt_T, lt_F, le_T, le_F, eq_T, eq_F, ltL_T, ltL_F, leL_T, leL_F, eqL_T, eqL_F, Llt_T, Llt_F, Lle_T, Lle_F, Leq_T, Leq_F, n10_F, n01_F, le0_F, lt0_T, le0_T, eq0_F, lt1_F, nJ_not_neg, nJ_ne_neg, nJ_neg_lt, nJ_neg_le, nJ_le_neg, ↓reduceIte, ld_ok, st_ok, rf_ok, ld_okL, st_okL, nJ_add, nJ_addL, nJ_Ladd, nJ_mul, nJ_mulL, nJ_Lmul]
theorem isTold_n {N o : Nat} {σ : sgS} (e : σ.1 o 3 = nI 0) : f_X0_isTold N o σ = some 0 := by
  unfold f_X0_isTold
  rw [e, if_pos (by decide)]; rfl
theorem isPlace_y {N k p : Nat} {τ : sgS} (e : τ.1 0 28 = nI p) (h : k < p) (hp : p < 2147483648) : f_X12_isPlace N (nI k) τ = some 1 := by
  unfold f_X12_isPlace; rw [e, in_y h hp]; rfl
theorem isPlace_n {N p : Nat} {x : Int32} {τ : sgS} (e : τ.1 0 28 = nI p) (h : x < 0 ∨ nI p ≤ x) (hp : p < 2147483648) : f_X12_isPlace N x τ = some 0 := by
  unfold f_X12_isPlace; rw [e, in_n h hp]; rfl
theorem isRoad_y {N k p : Nat} {τ : sgS} (e : τ.1 0 29 = nI p) (h : k < p) (hp : p < 2147483648) : f_X12_isRoad N (nI k) τ = some 1 := by
  unfold f_X12_isRoad; rw [e, in_y h hp]; rfl
theorem isRoad_n {N p : Nat} {x : Int32} {τ : sgS} (e : τ.1 0 29 = nI p) (h : x < 0 ∨ nI p ≤ x) (hp : p < 2147483648) : f_X12_isRoad N x τ = some 0 := by
  unfold f_X12_isRoad; rw [e, in_n h hp]; rfl
theorem isSet_y {N k p : Nat} {τ : sgS} (e : τ.1 0 30 = nI p) (h : k < p) (hp : p < 2147483648) : f_X12_isSet N (nI k) τ = some 1 := by
  unfold f_X12_isSet; rw [e, in_y h hp]; rfl
theorem isSet_n {N p : Nat} {x : Int32} {τ : sgS} (e : τ.1 0 30 = nI p) (h : x < 0 ∨ nI p ≤ x) (hp : p < 2147483648) : f_X12_isSet N x τ = some 0 := by
  unfold f_X12_isSet; rw [e, in_n h hp]; rfl
theorem isWay_y {N k p : Nat} {τ : sgS} (e : τ.1 0 33 = nI p) (h : k < p) (hp : p < 2147483648) : f_X12_isWay N (nI k) τ = some 1 := by
  unfold f_X12_isWay; rw [e, in_y h hp]; rfl
theorem isWay_n {N p : Nat} {x : Int32} {τ : sgS} (e : τ.1 0 33 = nI p) (h : x < 0 ∨ nI p ≤ x) (hp : p < 2147483648) : f_X12_isWay N x τ = some 0 := by
  unfold f_X12_isWay; rw [e, in_n h hp]; rfl
theorem placeAt_y {N y i : Nat} {Y : Wys} {σ : sgS} (h : CY Y σ) (ok : okY Y) (hy : y < wN Y) (hi : i < wL Y y) : f_X10_placeAt N (nI y) (nI i) σ = some (nI (wS Y y i)) := by
  have h4 := ok.1
  have h12 := ok.2 y hy
  unfold f_X10_placeAt
  rw [has_y h.1 hy (by omega)]
  simp only [sg_cr, sg_cl, sg_lb, sg_pf, sg_pl, sg_nz, sg_nzl, sg_nar0, sg_nar1]
  simp (disch := omega) only [sg_cr, sg_cl, sg_lb, sg_pf, sg_pl, sg_nz, sg_nzl, sg_nar0, sg_nar1, lt_T, lt_F, le_T, le_F, eq_T, eq_F, ltL_T, ltL_F, leL_T, leL_F, eqL_T, eqL_F, Llt_T, Llt_F, Lle_T, Lle_F, Leq_T, Leq_F, n10_F, n01_F, le0_F, lt0_T, le0_T, eq0_F, lt1_F, nJ_not_neg, nJ_ne_neg, nJ_neg_lt, nJ_neg_le, nJ_le_neg, ↓reduceIte, ld_ok, st_ok, rf_ok, ld_okL, st_okL, nJ_add, nJ_addL, nJ_Ladd, nJ_mul, nJ_mulL, nJ_Lmul, (h.2 y hy).1, (h.2 y hy).2 i hi]
theorem placeAt_n {N y : Nat} {x : Int32} {Y : Wys} {σ : sgS} (h : CY Y σ) (ok : okY Y) (hy : y < wN Y) (hi : x < 0 ∨ nI (wL Y y) ≤ x) : f_X10_placeAt N (nI y) x σ = some (-1) := by
  have h4 := ok.1
  have h12 := ok.2 y hy
  unfold f_X10_placeAt
  rw [has_y h.1 hy (by omega)]
  simp only [sg_cr, sg_cl, sg_lb, sg_pf, sg_pl, sg_nz, sg_nzl, sg_nar0, sg_nar1]
  rw [if_neg (by decide)]
  by_cases h0 : x < 0
  · rw [if_pos h0]
  · rw [if_neg h0, ld_ok (by omega) (by decide), (h.2 y hy).1, if_pos (hi.resolve_left h0)]
/-! the ops of the law: from what both stand for -/
theorem ro_eq {f g : Nat → sgS → Option Int32} (h : ∀ A σ τ, okA A → RelC A σ → RelM A τ → ∃ N M r, f N σ = some r ∧ g M τ = some r) : lw_Eq Rel (fun N σ => lw_up (f N σ) σ) (fun N σ => lw_up (g N σ) σ) := by
  rintro σ τ ⟨A, ok, C, M⟩
  obtain ⟨N, M', r, h1, h2⟩ := h A σ τ ok C M
  exact ⟨N, M', r, σ, τ, by show lw_up (f N σ) σ = _; rw [h1]; rfl, by show lw_up (g M' τ) τ = _; rw [h2]; rfl, A, ok, C, M⟩
theorem rw_eq {f g : Nat → sgS → Option (Int32 × sgS)} (h : ∀ A σ τ, okA A → RelC A σ → RelM A τ → ∃ N M r σ' τ' A', f N σ = some (r, σ') ∧ g M τ = some (r, τ') ∧ okA A' ∧ RelC A' σ' ∧ RelM A' τ') : lw_Eq Rel f g := by
  rintro σ τ ⟨A, ok, C, M⟩
  obtain ⟨N, M', r, σ', τ', A', h1, h2, h3, h4, h5⟩ := h A σ τ ok C M
  exact ⟨N, M', r, σ', τ', h1, h2, A', h3, h4, h5⟩
/-- a question: both answer, and write only what is not seen -/
theorem q_eq {f g : Nat → sgS → Option (Int32 × sgS)} (h : ∀ A σ τ, okA A → RelC A σ → RelM A τ → ∃ N M r σ' τ', f N σ = some (r, σ') ∧ g M τ = some (r, τ') ∧ Fr scC σ σ' ∧ Fr scM τ τ') : lw_Eq Rel f g := by
  refine rw_eq (fun A σ τ ok C M => ?_)
  obtain ⟨N, M', r, σ', τ', h1, h2, h3, h4⟩ := h A σ τ ok C M
  exact ⟨N, M', r, σ', τ', A, h1, h2, ok, RelC_fr ok.2.2.2.2.2.2.1.1 C h3 ok.2.2.1.1 ok.2.2.2.1.1, RelM_fr M h4⟩
theorem not01 {x : Int32} (c0 : x ≠ 0) (c1 : x ≠ 1) : x < 0 ∨ nI 2 ≤ x := by
  rcases nJ_rng x 2 (by decide) with ⟨q, hq, rfl⟩ | h
  · rcases q with _ | _ | q
    · exact absurd rfl c0
    · exact absurd rfl c1
    · omega
  · exact h
theorem in01_0 {N : Nat} {τ : sgS} : f_X12_in N 0 0 1 τ = some 1 := rfl
theorem in01_1 {N : Nat} {τ : sgS} : f_X12_in N 1 0 1 τ = some 1 := rfl
theorem in01_n {N : Nat} {x : Int32} {τ : sgS} (h : x < 0 ∨ nI 2 ≤ x) : f_X12_in N x 0 1 τ = some 0 := in_n (n := 2) h (by decide)
theorem lw_O7_ok : lw_O7 Rel := by
  intro a1 a2
  refine ro_eq (fun A σ τ ok C M => ⟨0, 0, ?_⟩)
  have hp : cP (aK A) ≤ 7 := ok.2.1.1
  have eC := C.2.1
  have eM := M.2.1
  unfold f_X11_spot f_X12_spot
  rcases nJ_rng a1 (cP (aK A)) (by omega) with ⟨k, hk, rfl⟩ | h
  · have h0 : cP (aK A) ≠ 0 := by omega
    have e1 := C.2.2.2.2.1 h0
    have e2 := M.2.2.2.2.1 h0
    rw [hasPlace_y eC.1 hk (by omega), isPlace_y eM.1 hk (by omega)]
    by_cases c0 : a2 = 0
    · subst c0
      simp (disch := omega) only [in01_0, sg_cr, sg_cl, sg_lb, sg_pf, sg_pl, sg_nz, sg_nzl, sg_nar0, sg_nar1, lt_T, lt_F, le_T, le_F, eq_T, eq_F, ltL_T, ltL_F, leL_T, leL_F, eqL_T, eqL_F, Llt_T, Llt_F, Lle_T, Lle_F, Leq_T, Leq_F, n10_F, n01_F, le0_F, lt0_T, le0_T, eq0_F, lt1_F, nJ_not_neg, nJ_ne_neg, nJ_neg_lt, nJ_neg_le, nJ_le_neg, ↓reduceIte, ld_ok, st_ok, rf_ok, ld_okL, st_okL, nJ_add, nJ_addL, nJ_Ladd, nJ_mul, nJ_mulL, nJ_Lmul, eC.2.2.2.2.1 k hk, eM.2.2.2.2.1 k hk]
      exact ⟨_, rfl, rfl⟩
    · by_cases c1 : a2 = 1
      · subst c1
        simp (disch := omega) only [in01_1, sg_cr, sg_cl, sg_lb, sg_pf, sg_pl, sg_nz, sg_nzl, sg_nar0, sg_nar1, lt_T, lt_F, le_T, le_F, eq_T, eq_F, ltL_T, ltL_F, leL_T, leL_F, eqL_T, eqL_F, Llt_T, Llt_F, Lle_T, Lle_F, Leq_T, Leq_F, n10_F, n01_F, le0_F, lt0_T, le0_T, eq0_F, lt1_F, nJ_not_neg, nJ_ne_neg, nJ_neg_lt, nJ_neg_le, nJ_le_neg, ↓reduceIte, ld_ok, st_ok, rf_ok, ld_okL, st_okL, nJ_add, nJ_addL, nJ_Ladd, nJ_mul, nJ_mulL, nJ_Lmul, e1.2.2.2.2.1 k hk, e2.2.2.2.2.1 k hk]
        exact ⟨_, rfl, rfl⟩
      · simp (disch := omega) only [in01_n (not01 c0 c1), c0, c1, sg_cr, sg_cl, sg_lb, sg_pf, sg_pl, sg_nz, sg_nzl, sg_nar0, sg_nar1, lt_T, lt_F, le_T, le_F, eq_T, eq_F, ltL_T, ltL_F, leL_T, leL_F, eqL_T, eqL_F, Llt_T, Llt_F, Lle_T, Lle_F, Leq_T, Leq_F, n10_F, n01_F, le0_F, lt0_T, le0_T, eq0_F, lt1_F, nJ_not_neg, nJ_ne_neg, nJ_neg_lt, nJ_neg_le, nJ_le_neg, ↓reduceIte, ld_ok, st_ok, rf_ok, ld_okL, st_okL, nJ_add, nJ_addL, nJ_Ladd, nJ_mul, nJ_mulL, nJ_Lmul]
        exact ⟨_, rfl, rfl⟩
  · rw [hasPlace_n eC.1 h, isPlace_n eM.1 h (by omega)]
    exact ⟨_, rfl, rfl⟩
