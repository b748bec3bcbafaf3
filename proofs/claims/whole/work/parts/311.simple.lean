theorem lw_O17_ok : lw_O17 Rel := by
  intro a1
  refine ro_eq (fun A σ τ ok C M => ⟨0, 0, ?_⟩)
  unfold f_X11_status f_X12_status
  rcases nJ_rng a1 5 (by decide) with ⟨k, hk, rfl⟩ | h
  · rw [inL (m := 4) (by decide), in_y (n := 4 + 1) hk (by decide)]
    simp (disch := omega) only [sg_cr, sg_cl, sg_lb, sg_pf, sg_pl, sg_nz, sg_nzl, sg_nar0, sg_nar1, lt_T, lt_F, le_T, le_F, eq_T, eq_F, ltL_T, ltL_F, leL_T, leL_F, eqL_T, eqL_F, Llt_T, Llt_F, Lle_T, Lle_F, Leq_T, Leq_F, n10_F, n01_F, le0_F, lt0_T, le0_T, eq0_F, lt1_F, nJ_not_neg, nJ_ne_neg, nJ_neg_lt, nJ_neg_le, nJ_le_neg, ↓reduceIte, ld_ok, st_ok, rf_ok, ld_okL, st_okL, nJ_add, nJ_addL, nJ_Ladd, nJ_mul, nJ_mulL, nJ_Lmul, C.2.2.2.2.2.2.2.2.2.2.2 k hk, M.2.2.2.2.2.2.2.2.2.2.2 k hk]
    exact ⟨_, rfl, rfl⟩
  · rw [inL (m := 4) (by decide), in_n (n := 4 + 1) h (by decide)]
    by_cases h0 : a1 < 0
    · simp only [h0, sg_cr, sg_cl, sg_lb, sg_pf, sg_pl, sg_nz, sg_nzl, sg_nar0, sg_nar1, lt_T, lt_F, le_T, le_F, eq_T, eq_F, ltL_T, ltL_F, leL_T, leL_F, eqL_T, eqL_F, Llt_T, Llt_F, Lle_T, Lle_F, Leq_T, Leq_F, n10_F, n01_F, le0_F, lt0_T, le0_T, eq0_F, lt1_F, nJ_not_neg, nJ_ne_neg, nJ_neg_lt, nJ_neg_le, nJ_le_neg, ↓reduceIte, ld_ok, st_ok, rf_ok, ld_okL, st_okL, nJ_add, nJ_addL, nJ_Ladd, nJ_mul, nJ_mulL, nJ_Lmul]
      exact ⟨_, rfl, rfl⟩
    · have h5 : ¬ a1 < 5 := by
        have h9 := h.resolve_left h0
        rcases nJ_cases a1 with hx | ⟨q, hq, rfl⟩
        · exact absurd hx h0
        · rw [nJ_le (by decide) hq] at h9
          rw [show ((5 : Int32)) = nI 5 from rfl, nJ_lt hq (by decide)]; omega
      simp only [h0, h5, sg_cr, sg_cl, sg_lb, sg_pf, sg_pl, sg_nz, sg_nzl, sg_nar0, sg_nar1, lt_T, lt_F, le_T, le_F, eq_T, eq_F, ltL_T, ltL_F, leL_T, leL_F, eqL_T, eqL_F, Llt_T, Llt_F, Lle_T, Lle_F, Leq_T, Leq_F, n10_F, n01_F, le0_F, lt0_T, le0_T, eq0_F, lt1_F, nJ_not_neg, nJ_ne_neg, nJ_neg_lt, nJ_neg_le, nJ_le_neg, ↓reduceIte, ld_ok, st_ok, rf_ok, ld_okL, st_okL, nJ_add, nJ_addL, nJ_Ladd, nJ_mul, nJ_mulL, nJ_Lmul]
      exact ⟨_, rfl, rfl⟩
theorem lw_O4_ok : lw_O4 Rel := by
  intro a1
  refine ro_eq (fun A σ τ ok C M => ⟨0, 0, ?_⟩)
  have hp : cP (aK A) ≤ 7 := ok.2.1.1
  have eC := C.2.1
  have eM := M.2.1
  unfold f_X11_rule f_X12_rule
  by_cases h0 : cP (aK A) = 0
  · rw [isTold_n (by rw [eC.1, h0])]
    exact ⟨-1, rfl, if_pos (by rw [eM.1, h0]; rfl)⟩
  · have e1 := C.2.2.2.2.1 h0
    have e2 := M.2.2.2.2.1 h0
    rw [isTold_y eC.1 h0 (by omega)]
    by_cases c0 : a1 = 0
    · subst c0
      simp (disch := omega) only [in01_0, sg_cr, sg_cl, sg_lb, sg_pf, sg_pl, sg_nz, sg_nzl, sg_nar0, sg_nar1, lt_T, lt_F, le_T, le_F, eq_T, eq_F, ltL_T, ltL_F, leL_T, leL_F, eqL_T, eqL_F, Llt_T, Llt_F, Lle_T, Lle_F, Leq_T, Leq_F, n10_F, n01_F, le0_F, lt0_T, le0_T, eq0_F, lt1_F, nJ_not_neg, nJ_ne_neg, nJ_neg_lt, nJ_neg_le, nJ_le_neg, ↓reduceIte, ld_ok, st_ok, rf_ok, ld_okL, st_okL, nJ_add, nJ_addL, nJ_Ladd, nJ_mul, nJ_mulL, nJ_Lmul, eM.1, (eC.2.2.2.1 h0).1, (eM.2.2.2.1 h0).1]
      exact ⟨_, rfl, rfl⟩
    · by_cases c1 : a1 = 1
      · subst c1
        simp (disch := omega) only [in01_1, sg_cr, sg_cl, sg_lb, sg_pf, sg_pl, sg_nz, sg_nzl, sg_nar0, sg_nar1, lt_T, lt_F, le_T, le_F, eq_T, eq_F, ltL_T, ltL_F, leL_T, leL_F, eqL_T, eqL_F, Llt_T, Llt_F, Lle_T, Lle_F, Leq_T, Leq_F, n10_F, n01_F, le0_F, lt0_T, le0_T, eq0_F, lt1_F, nJ_not_neg, nJ_ne_neg, nJ_neg_lt, nJ_neg_le, nJ_le_neg, ↓reduceIte, ld_ok, st_ok, rf_ok, ld_okL, st_okL, nJ_add, nJ_addL, nJ_Ladd, nJ_mul, nJ_mulL, nJ_Lmul, eM.1, e1.2.2.2.2.2.2.1, e2.2.2.2.2.2.2.1]
        exact ⟨_, rfl, rfl⟩
      · simp (disch := omega) only [in01_n (not01 c0 c1), c0, c1, sg_cr, sg_cl, sg_lb, sg_pf, sg_pl, sg_nz, sg_nzl, sg_nar0, sg_nar1, lt_T, lt_F, le_T, le_F, eq_T, eq_F, ltL_T, ltL_F, leL_T, leL_F, eqL_T, eqL_F, Llt_T, Llt_F, Lle_T, Lle_F, Leq_T, Leq_F, n10_F, n01_F, le0_F, lt0_T, le0_T, eq0_F, lt1_F, nJ_not_neg, nJ_ne_neg, nJ_neg_lt, nJ_neg_le, nJ_le_neg, ↓reduceIte, ld_ok, st_ok, rf_ok, ld_okL, st_okL, nJ_add, nJ_addL, nJ_Ladd, nJ_mul, nJ_mulL, nJ_Lmul, eM.1]
        exact ⟨_, rfl, rfl⟩
theorem lw_O39_ok : lw_O39 Rel := by
  intro a1
  refine ro_eq (fun A σ τ ok C M => ⟨0, 0, ?_⟩)
  have hd : sD (aS A) ≤ 999 := ok.2.2.2.2.2.2.2.1
  have eG : (if (nI (sD (aS A))) < 60 then nI (sD (aS A)) else 60) = nI (min 60 (sD (aS A))) := by
    by_cases h : sD (aS A) < 60
    · rw [if_pos (by rw [show (60 : Int32) = nI 60 from rfl, nJ_lt (by omega) (by decide)]; exact h), Nat.min_eq_right (by omega)]
    · rw [if_neg (by rw [show (60 : Int32) = nI 60 from rfl, nJ_lt (by omega) (by decide)]; exact h), Nat.min_eq_left (by omega)]; rfl
  unfold f_X11_count f_X12_count f_X6_logSize
  by_cases c0 : a1 = 0
  · refine ⟨_, by rw [if_pos c0], ?_⟩
    rw [if_pos c0, C.2.1.1, M.2.1.1]
  by_cases c1 : a1 = 1
  · refine ⟨_, by rw [if_neg c0, if_pos c1], ?_⟩
    rw [if_neg c0, if_pos c1, C.2.1.2.1, M.2.1.2.1]
  by_cases c2 : a1 = 2
  · refine ⟨_, by rw [if_neg c0, if_neg c1, if_pos c2], ?_⟩
    rw [if_neg c0, if_neg c1, if_pos c2, C.2.1.2.2.1, M.2.1.2.2.1]
  by_cases c3 : a1 = 3
  · refine ⟨_, by rw [if_neg c0, if_neg c1, if_neg c2, if_pos c3], ?_⟩
    rw [if_neg c0, if_neg c1, if_neg c2, if_pos c3, C.2.2.1.1, M.2.2.1.1]
  by_cases c4 : a1 = 4
  · refine ⟨_, by rw [if_neg c0, if_neg c1, if_neg c2, if_neg c3, if_pos c4], ?_⟩
    rw [if_neg c0, if_neg c1, if_neg c2, if_neg c3, if_pos c4, C.2.2.2.1.1, M.2.2.2.1.1]
  by_cases c5 : a1 = 5
  · refine ⟨_, by rw [if_neg c0, if_neg c1, if_neg c2, if_neg c3, if_neg c4, if_pos c5], ?_⟩
    rw [if_neg c0, if_neg c1, if_neg c2, if_neg c3, if_neg c4, if_pos c5, C.1.1, M.1.1]
  by_cases c6 : a1 = 6
  · refine ⟨_, by rw [if_neg c0, if_neg c1, if_neg c2, if_neg c3, if_neg c4, if_neg c5, if_pos c6], ?_⟩
    rw [if_neg c0, if_neg c1, if_neg c2, if_neg c3, if_neg c4, if_neg c5, if_pos c6, C.2.2.1.2.1, M.2.2.1.2.1]
  by_cases c7 : a1 = 7
  · refine ⟨_, by rw [if_neg c0, if_neg c1, if_neg c2, if_neg c3, if_neg c4, if_neg c5, if_neg c6, if_pos c7], ?_⟩
    rw [if_neg c0, if_neg c1, if_neg c2, if_neg c3, if_neg c4, if_neg c5, if_neg c6, if_pos c7]
    show (sg_ld τ 21 215 (nI 33) fun v2 => some v2) = some (σ.1 37 7)
    rw [ld_ok (by decide) (by decide), M.2.2.2.2.2.1, C.2.2.2.2.2.1]
  by_cases c8 : a1 = 8
  · refine ⟨_, by rw [if_neg c0, if_neg c1, if_neg c2, if_neg c3, if_neg c4, if_neg c5, if_neg c6, if_neg c7, if_pos c8], ?_⟩
    rw [if_neg c0, if_neg c1, if_neg c2, if_neg c3, if_neg c4, if_neg c5, if_neg c6, if_neg c7, if_pos c8, C.2.2.2.2.2.2.2.2.2.2.1, M.2.2.2.2.2.2.2.2.2.2.1]
  by_cases c9 : a1 = 9
  · refine ⟨_, by rw [if_neg c0, if_neg c1, if_neg c2, if_neg c3, if_neg c4, if_neg c5, if_neg c6, if_neg c7, if_neg c8, if_pos c9], ?_⟩
    rw [if_neg c0, if_neg c1, if_neg c2, if_neg c3, if_neg c4, if_neg c5, if_neg c6, if_neg c7, if_neg c8, if_pos c9, C.2.2.2.2.2.2.2.2.2.1.1, M.2.2.2.2.2.2.2.2.2.1.1]
  by_cases c10 : a1 = 10
  · refine ⟨_, by rw [if_neg c0, if_neg c1, if_neg c2, if_neg c3, if_neg c4, if_neg c5, if_neg c6, if_neg c7, if_neg c8, if_neg c9, if_pos c10]; rfl, ?_⟩
    rw [if_neg c0, if_neg c1, if_neg c2, if_neg c3, if_neg c4, if_neg c5, if_neg c6, if_neg c7, if_neg c8, if_neg c9, if_pos c10]
    show (sg_ld τ 21 215 (nI 34) fun v2 => some v2) = some (if σ.1 37 7 < 60 then σ.1 37 7 else 60)
    rw [ld_ok (by decide) (by decide), M.2.2.2.2.2.2.1.1, C.2.2.2.2.2.1, eG]
  by_cases c11 : a1 = 11
  · refine ⟨_, by rw [if_neg c0, if_neg c1, if_neg c2, if_neg c3, if_neg c4, if_neg c5, if_neg c6, if_neg c7, if_neg c8, if_neg c9, if_neg c10, if_pos c11], ?_⟩
    rw [if_neg c0, if_neg c1, if_neg c2, if_neg c3, if_neg c4, if_neg c5, if_neg c6, if_neg c7, if_neg c8, if_neg c9, if_neg c10, if_pos c11, C.2.2.2.2.2.2.2.1.1, M.2.2.2.2.2.2.2.1.1]
  exact ⟨_, by rw [if_neg c0, if_neg c1, if_neg c2, if_neg c3, if_neg c4, if_neg c5, if_neg c6, if_neg c7, if_neg c8, if_neg c9, if_neg c10, if_neg c11], by rw [if_neg c0, if_neg c1, if_neg c2, if_neg c3, if_neg c4, if_neg c5, if_neg c6, if_neg c7, if_neg c8, if_neg c9, if_neg c10, if_neg c11]⟩
theorem neg1_toInt : (-1 : Int32).toInt = -1 := by decide
theorem in1_y {N k n : Nat} {τ : sgS} (h : k < n) (hn : n < 2147483648) : f_X12_in N (nI k) (-1) (nI n - 1) τ = some 1 := by
  have e : nI n - 1 = nI (n - 1) := nJ_sub (n := 1) (by omega)
  unfold f_X12_in
  rw [if_neg, if_neg]
  · rfl
  · rw [e, nJ_lt (by omega) (by omega)]; omega
  · rw [Int32.lt_iff_toInt_lt, nJ_toInt (by omega), neg1_toInt]; omega
theorem in1_1 {N n : Nat} {τ : sgS} (hn : n < 2147483648) : f_X12_in N (-1) (-1) (nI n - 1) τ = some 1 := by
  unfold f_X12_in
  rw [if_neg (by decide), if_neg]
  · rfl
  · rcases n with _ | n
    · decide
    · have e : nI (n + 1) - 1 = nI n := wI_s
      rw [e, Int32.lt_iff_toInt_lt, nJ_toInt (by omega), neg1_toInt]; omega
theorem in1_n {N n : Nat} {x : Int32} {τ : sgS} (hn : n < 2147483648) (c : x ≠ -1) (h : x < 0 ∨ nI n ≤ x) : f_X12_in N x (-1) (nI n - 1) τ = some 0 := by
  unfold f_X12_in
  by_cases h3 : x < -1
  · rw [if_pos h3]; rfl
  · rw [if_neg h3]
    have h4 : ¬ x < 0 := by
      intro h5
      rw [Int32.lt_iff_toInt_lt, neg1_toInt] at h3
      rw [Int32.lt_iff_toInt_lt, show (0 : Int32).toInt = 0 from by decide] at h5
      exact c (by rw [← Int32.toInt_inj, neg1_toInt]; omega)
    have h5 := h.resolve_left h4
    rcases nJ_cases x with hx | ⟨q, hq, rfl⟩
    · exact absurd hx h4
    · rw [nJ_le hn hq] at h5
      rw [if_pos]
      · rfl
      · rcases n with _ | n
        · rw [Int32.lt_iff_toInt_lt, nJ_toInt hq, show (nI 0 - 1 : Int32).toInt = -1 from by decide]; omega
        · have e : nI (n + 1) - 1 = nI n := wI_s
          rw [e, nJ_lt (by omega) hq]; omega
theorem lw_O9_ok : lw_O9 Rel := by
  intro a1 a2
  refine ro_eq (fun A σ τ ok C M => ⟨0, 0, ?_⟩)
  have okw := ok.2.2.2.1
  have hw := okw.1
  have eC := C.2.2.2.1
  have eM := M.2.2.2.1
  unfold f_X11_walked f_X12_walked
  rcases nJ_rng a1 (wN (aY A)) (by omega) with ⟨y, hy, rfl⟩ | h
  · have h12 := okw.2 y hy
    rw [has_y eC.1 hy (by omega), isWay_y eM.1 hy (by omega)]
    by_cases c : a2 = -1
    · subst c
      have e9 : f_X12_in 0 (-1) (-1) (nI (wL (aY A) y) - 1) τ = some 1 := in1_1 (by omega)
      simp (disch := omega) only [sg_cr, sg_cl, sg_lb, sg_pf, sg_pl, sg_nz, sg_nzl, sg_nar0, sg_nar1, lt_T, lt_F, le_T, le_F, eq_T, eq_F, ltL_T, ltL_F, leL_T, leL_F, eqL_T, eqL_F, Llt_T, Llt_F, Lle_T, Lle_F, Leq_T, Leq_F, n10_F, n01_F, le0_F, lt0_T, le0_T, eq0_F, lt1_F, nJ_not_neg, nJ_ne_neg, nJ_neg_lt, nJ_neg_le, nJ_le_neg, ↓reduceIte, ld_ok, st_ok, rf_ok, ld_okL, st_okL, nJ_add, nJ_addL, nJ_Ladd, nJ_mul, nJ_mulL, nJ_Lmul, (eC.2 y hy).1, (eM.2 y hy).1, e9]
      exact ⟨_, rfl, rfl⟩
    · rcases nJ_rng a2 (wL (aY A) y) (by omega) with ⟨i, hi, rfl⟩ | h2
      · have e9 : f_X12_in 0 (nI i) (-1) (nI (wL (aY A) y) - 1) τ = some 1 := in1_y hi (by omega)
        simp (disch := omega) only [sg_cr, sg_cl, sg_lb, sg_pf, sg_pl, sg_nz, sg_nzl, sg_nar0, sg_nar1, lt_T, lt_F, le_T, le_F, eq_T, eq_F, ltL_T, ltL_F, leL_T, leL_F, eqL_T, eqL_F, Llt_T, Llt_F, Lle_T, Lle_F, Leq_T, Leq_F, n10_F, n01_F, le0_F, lt0_T, le0_T, eq0_F, lt1_F, nJ_not_neg, nJ_ne_neg, nJ_neg_lt, nJ_neg_le, nJ_le_neg, ↓reduceIte, ld_ok, st_ok, rf_ok, ld_okL, st_okL, nJ_add, nJ_addL, nJ_Ladd, nJ_mul, nJ_mulL, nJ_Lmul, c, (eM.2 y hy).1, e9, placeAt_y eC okw hy hi, (eM.2 y hy).2 i hi]
        exact ⟨_, rfl, rfl⟩
      · have e9 : f_X12_in 0 a2 (-1) (nI (wL (aY A) y) - 1) τ = some 0 := in1_n (by omega) c h2
        simp (disch := omega) only [sg_cr, sg_cl, sg_lb, sg_pf, sg_pl, sg_nz, sg_nzl, sg_nar0, sg_nar1, lt_T, lt_F, le_T, le_F, eq_T, eq_F, ltL_T, ltL_F, leL_T, leL_F, eqL_T, eqL_F, Llt_T, Llt_F, Lle_T, Lle_F, Leq_T, Leq_F, n10_F, n01_F, le0_F, lt0_T, le0_T, eq0_F, lt1_F, nJ_not_neg, nJ_ne_neg, nJ_neg_lt, nJ_neg_le, nJ_le_neg, ↓reduceIte, ld_ok, st_ok, rf_ok, ld_okL, st_okL, nJ_add, nJ_addL, nJ_Ladd, nJ_mul, nJ_mulL, nJ_Lmul, c, (eM.2 y hy).1, e9, placeAt_n eC okw hy h2]
        exact ⟨_, rfl, rfl⟩
  · rw [has_n eC.1 h, isWay_n eM.1 h (by omega)]
    exact ⟨_, rfl, rfl⟩
/-! what is put elsewhere -/
def uT (A : Abs) (x : Nat × (Nat → Nat)) : Abs := (x, A.2)
def uL (A : Abs) (x : Lws) : Abs := (A.1, A.2.1, x, A.2.2.2)
def uF (A : Abs) (x : Nat) : Abs := (A.1, A.2.1, A.2.2.1, A.2.2.2.1, A.2.2.2.2.1, A.2.2.2.2.2.1, A.2.2.2.2.2.2.1, A.2.2.2.2.2.2.2.1, x, A.2.2.2.2.2.2.2.2.2)
def uR (A : Abs) (x : Nat → Int32) : Abs := (A.1, A.2.1, A.2.2.1, A.2.2.2.1, A.2.2.2.2.1, A.2.2.2.2.2.1, A.2.2.2.2.2.2.1, A.2.2.2.2.2.2.2.1, A.2.2.2.2.2.2.2.2.1, x)
theorem up_ne {σ : sgS} {i k j : Nat} {v : Int32} (h : j ≠ i) : (sg_up σ i k v).1 j = σ.1 j := sg_row_nt h
theorem up_nk {σ : sgS} {i k q : Nat} {v : Int32} (h : q ≠ k) : (sg_up σ i k v).1 i q = σ.1 i q := by rw [up_get, if_neg]; rintro ⟨-, rfl⟩; exact h rfl
theorem up_at {σ : sgS} {i k : Nat} {v : Int32} : (sg_up σ i k v).1 i k = v := by rw [up_get, if_pos ⟨rfl, rfl⟩]
theorem CS_congr {K : Cty} {S : Sta} {o : Nat} {σ σ' : sgS} (h : ∀ i, i ≤ 5 → σ'.1 (o + i) = σ.1 (o + i)) (hs : CS K S o σ) : CS K S o σ' := by
  unfold CS at hs ⊢
  rw [h 1 (by decide), h 2 (by decide), h 3 (by decide), h 4 (by decide), h 5 (by decide), show σ'.1 o = σ.1 o from h 0 (by decide)]
  exact hs
/-- one place is written that speaks of no state: the states stay -/
theorem CPast_up {A A' : Abs} {σ : sgS} {i k : Nat} {v : Int32} (h : CPast A σ) (e1 : aN A' = aN A) (e2 : aH A' = aH A) (e3 : aK A' = aK A) (hi : i ≠ 52) (h2 : ¬ (62 ≤ i ∧ i ≤ 301)) : CPast A' (sg_up σ i k v) := by
  obtain ⟨h1, nx, q1, q2, q3⟩ := h
  unfold CPast
  rw [e1, e2, e3, up_ne (by omega)]
  refine ⟨h1, nx, q1, q2, fun a ha => CS_congr (fun j hj => ?_) (q3 a ha)⟩
  have := Nat.mod_lt (nx + 40 - aN A + a) (show 0 < 40 by decide)
  exact up_ne (by omega)
