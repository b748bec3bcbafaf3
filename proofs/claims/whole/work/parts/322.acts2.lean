theorem refused_eq {N w : Nat} {A : Abs} {σ τ : sgS} (ok : okA A) (C : RelC A σ) (M : RelM A τ) (hw : w < 5) : ∃ σ' τ', f_X11_refuse N (nI w) σ = some (-1, σ') ∧ f_X12_isRefused N (nI w) τ = some (1, τ') ∧ okA (rA A w) ∧ RelC (rA A w) σ' ∧ RelM (rA A w) τ' := by
  obtain ⟨σ', h1, h2⟩ := refuse_ok (N := N) ok hw C
  obtain ⟨τ', h3, h4⟩ := isRefused_ok (N := N) hw M
  exact ⟨σ', τ', h1, h3, rA_ok ok, h2, h4⟩
theorem in_1y {N k n : Nat} {τ : sgS} (h1 : 1 ≤ k) (h : k ≤ n) (hn : n < 2147483648) : f_X12_in N (nI k) 1 (nI n) τ = some 1 := by
  unfold f_X12_in
  simp (disch := omega) only [sg_cr, sg_cl, sg_lb, sg_pf, sg_pl, sg_nz, sg_nzl, sg_nar0, sg_nar1, lt_T, lt_F, le_T, le_F, eq_T, eq_F, ltL_T, ltL_F, leL_T, leL_F, eqL_T, eqL_F, Llt_T, Llt_F, Lle_T, Lle_F, Leq_T, Leq_F, n10_F, n01_F, le0_F, lt0_T, le0_T, eq0_F, lt1_F, nJ_not_neg, nJ_ne_neg, nJ_neg_lt, nJ_neg_le, nJ_le_neg, ↓reduceIte, ld_ok, st_ok, rf_ok, ld_okL, st_okL, nJ_add, nJ_addL, nJ_Ladd, nJ_mul, nJ_mulL, nJ_Lmul]
theorem in_1n {N n : Nat} {x : Int32} {τ : sgS} (h : x < 1 ∨ nI n < x) : f_X12_in N x 1 (nI n) τ = some 0 := by
  unfold f_X12_in
  by_cases h1 : x < 1
  · rw [if_pos h1]; rfl
  · rw [if_neg h1, if_pos (h.resolve_left h1)]; rfl
/-- from 1 to n, or not -/
theorem rng1 (x : Int32) (n : Nat) (hn : n < 2147483647) : (∃ k, 1 ≤ k ∧ k ≤ n ∧ x = nI k) ∨ (x < 1 ∨ nI n < x) := by
  rcases nJ_cases x with h | ⟨k, hk, rfl⟩
  · right; left
    rw [Int32.lt_iff_toInt_lt, show (0 : Int32).toInt = 0 from by decide] at h
    rw [Int32.lt_iff_toInt_lt, show (1 : Int32).toInt = 1 from by decide]
    omega
  · by_cases h0 : k = 0
    · subst h0; right; left; decide
    · by_cases h1 : k ≤ n
      · exact Or.inl ⟨k, by omega, h1, rfl⟩
      · right; right; rw [nJ_lt (by omega) hk]; omega
theorem lw_O14_ok : lw_O14 Rel := by
  intro a1
  refine rw_eq (fun A σ τ ok C M => ⟨10000, 10000, ?_⟩)
  have okL4 : (aL A).1 ≤ 4 := ok.2.2.1.1
  have okY4 : wN (aY A) ≤ 4 := ok.2.2.2.1.1
  have gC := RelC_iff.mp C
  have gM := RelM_iff.mp M
  have hp : cP (aK A) ≤ 7 := ok.2.1.1
  have eC : CK (aK A) σ := gC.2.1
  have eM : MK (aK A) τ := gM.2.1
  unfold f_X11_give f_X12_give f_X12_give_B42
  by_cases h0 : cP (aK A) = 0
  · obtain ⟨σ', τ', h1, h2, h3, h4, h5⟩ := refused_eq (N := 10000) (w := 0) ok C M (by decide)
    refine ⟨-1, σ', τ', rA A 0, ?_, ?_, h3, h4, h5⟩
    · rw [isTold_n (by rw [eC.1, h0])]
      simp only [sg_cr, ↓reduceIte]
      rw [show f_X11_refuse 10000 0 σ = some (-1, σ') from h1]; rfl
    · rw [if_pos (by rw [eM.1, h0]; rfl), show f_X12_isRefused 10000 0 τ = some (1, τ') from h2]; rfl
  · have eS := gC.2.2.2.2.1.1 h0
    have mS := gM.2.2.2.2.1.1 h0
    have oS := ok.2.2.2.2.2.1 h0
    have hk9 := oS.2.2.2.2.2
    have ref1 : ∃ r σ' τ' A', (sg_cl (f_X11_refuse 10000 1 σ) fun v s => some (v, s)) = some (r, σ') ∧ (sg_cl (f_X12_isRefused 10000 1 τ) fun v2 s3 => if v2 = 0 then (sg_cl (f_X12_keep 10000 s3) fun v4 s5 => sg_ld s5 21 215 32 fun v6 => sg_st s5 21 215 32 (v6 + a1) fun s7 => sg_ld s7 21 215 32 fun v8 => some (v8, s7)) else some (-1, s3)) = some (r, τ') ∧ okA A' ∧ RelC A' σ' ∧ RelM A' τ' := by
      obtain ⟨σ', τ', h1, h2, h3, h4, h5⟩ := refused_eq (N := 10000) (w := 1) ok C M (by decide)
      exact ⟨-1, σ', τ', rA A 1, by rw [show f_X11_refuse 10000 1 σ = some (-1, σ') from h1]; rfl, by rw [show f_X12_isRefused 10000 1 τ = some (1, τ') from h2]; rfl, h3, h4, h5⟩
    rw [isTold_y eC.1 h0 (by omega), eS.2.2.2.2.2.2.1, show (50 : Int32) = nI 50 from rfl]
    simp (disch := omega) only [sg_cr, sg_cl, sg_lb, sg_pf, sg_pl, sg_nz, sg_nzl, sg_nar0, sg_nar1, lt_T, lt_F, le_T, le_F, eq_T, eq_F, ltL_T, ltL_F, leL_T, leL_F, eqL_T, eqL_F, Llt_T, Llt_F, Lle_T, Lle_F, Leq_T, Leq_F, n10_F, n01_F, le0_F, lt0_T, le0_T, eq0_F, lt1_F, nJ_not_neg, nJ_ne_neg, nJ_neg_lt, nJ_neg_le, nJ_le_neg, ↓reduceIte, ld_ok, st_ok, rf_ok, ld_okL, st_okL, nJ_add, nJ_addL, nJ_Ladd, nJ_mul, nJ_mulL, nJ_Lmul, eM.1, mS.2.2.2.2.2.2.1]
    rcases rng1 a1 50 (by decide) with ⟨k, hk1, hk2, rfl⟩ | h
    · rw [in_1y hk1 hk2 (by decide)]
      by_cases hc : sK (aS A) + k ≤ 999
      · obtain ⟨σ1, e1, C1⟩ := remember_ok (N := 10000) ok h0 C
        obtain ⟨τ1, e2, M1⟩ := keep_ok (N := 10000) (by decide) ok h0 M
        have ok1 := kP_ok ok h0
        have eS1 : CS (aK A) (aS A) 37 σ1 := (RelC_iff.mp C1).2.2.2.2.1.1 h0
        have mS1 : MS (aK A) (aS A) (τ1.1 21) := (RelM_iff.mp M1).2.2.2.2.1.1 h0
        simp (disch := omega) only [sg_cr, sg_cl, sg_lb, sg_pf, sg_pl, sg_nz, sg_nzl, sg_nar0, sg_nar1, lt_T, lt_F, le_T, le_F, eq_T, eq_F, ltL_T, ltL_F, leL_T, leL_F, eqL_T, eqL_F, Llt_T, Llt_F, Lle_T, Lle_F, Leq_T, Leq_F, n10_F, n01_F, le0_F, lt0_T, le0_T, eq0_F, lt1_F, nJ_not_neg, nJ_ne_neg, nJ_neg_lt, nJ_neg_le, nJ_le_neg, ↓reduceIte, ld_ok, st_ok, rf_ok, ld_okL, st_okL, nJ_add, nJ_addL, nJ_Ladd, nJ_mul, nJ_mulL, nJ_Lmul, e1, isRefused_no, e2, eS1.2.2.2.2.2.2.1, mS1.2.2.2.2.2.2.1, up_at]
        have hs : okS (aK A) (aY A) (setK (aS A) (sK (aS A) + k)) := ⟨oS.1, oS.2.1, oS.2.2.1, oS.2.2.2.1, oS.2.2.2.2.1, hc⟩
        refine ⟨_, _, _, uS (kP A) (setK (aS A) (sK (aS A) + k), aG A), rfl, rfl, now_ok ok1 h0 hs rfl, now_C ok1 C1 (Fr.up (by unfold pb; omega)) (CS_K eS1) rfl, now_M M1 (Fr.up (by unfold p21; omega)) ?_ rfl⟩
        rw [row21]; exact MS_K ok.2.1 mS1
      · simp (disch := omega) only [sg_cr, sg_cl, sg_lb, sg_pf, sg_pl, sg_nz, sg_nzl, sg_nar0, sg_nar1, lt_T, lt_F, le_T, le_F, eq_T, eq_F, ltL_T, ltL_F, leL_T, leL_F, eqL_T, eqL_F, Llt_T, Llt_F, Lle_T, Lle_F, Leq_T, Leq_F, n10_F, n01_F, le0_F, lt0_T, le0_T, eq0_F, lt1_F, nJ_not_neg, nJ_ne_neg, nJ_neg_lt, nJ_neg_le, nJ_le_neg, ↓reduceIte, ld_ok, st_ok, rf_ok, ld_okL, st_okL, nJ_add, nJ_addL, nJ_Ladd, nJ_mul, nJ_mulL, nJ_Lmul]
        exact ref1
    · rw [in_1n h]
      simp only [sg_cr, ↓reduceIte]
      by_cases h1 : a1 < 1
      · simp only [h1, ↓reduceIte]; exact ref1
      · simp only [h1, h.resolve_left h1, ↓reduceIte]; exact ref1
theorem lw_O13_ok : lw_O13 Rel := by
  intro a1
  refine rw_eq (fun A σ τ ok C M => ⟨10000, 10000, ?_⟩)
  have okL4 : (aL A).1 ≤ 4 := ok.2.2.1.1
  have okY4 : wN (aY A) ≤ 4 := ok.2.2.2.1.1
  have gC := RelC_iff.mp C
  have gM := RelM_iff.mp M
  have hr : cR (aK A) ≤ 12 := ok.2.1.2.1
  have eC : CK (aK A) σ := gC.2.1
  have eM : MK (aK A) τ := gM.2.1
  unfold f_X11_bars f_X12_bars f_X12_bars_B29
  rcases nJ_rng a1 (cR (aK A)) (by omega) with ⟨k, hk, rfl⟩ | h
  · have h0 : cP (aK A) ≠ 0 := fun h => by have := (ok.2.1.2.2.2.1 h).1; omega
    have eS := gC.2.2.2.2.1.1 h0
    have mS := gM.2.2.2.2.1.1 h0
    have oS := ok.2.2.2.2.2.1 h0
    have hk9 := oS.2.2.2.2.2
    rw [hasRoad_y eC.2.1 hk (by omega), isRoad_y eM.2.1 hk (by omega), eS.2.2.2.2.2.2.1]
    by_cases hc : 1 ≤ sK (aS A)
    · obtain ⟨σ1, e1, C1⟩ := remember_ok (N := 10000) ok h0 C
      obtain ⟨τ1, e2, M1⟩ := keep_ok (N := 10000) (by decide) ok h0 M
      have ok1 := kP_ok ok h0
      have eS1 : CS (aK A) (aS A) 37 σ1 := (RelC_iff.mp C1).2.2.2.2.1.1 h0
      have mS1 : MS (aK A) (aS A) (τ1.1 21) := (RelM_iff.mp M1).2.2.2.2.1.1 h0
      simp (disch := omega) only [sg_cr, sg_cl, sg_lb, sg_pf, sg_pl, sg_nz, sg_nzl, sg_nar0, sg_nar1, lt_T, lt_F, le_T, le_F, eq_T, eq_F, ltL_T, ltL_F, leL_T, leL_F, eqL_T, eqL_F, Llt_T, Llt_F, Lle_T, Lle_F, Leq_T, Leq_F, n10_F, n01_F, le0_F, lt0_T, le0_T, eq0_F, lt1_F, nJ_not_neg, nJ_ne_neg, nJ_neg_lt, nJ_neg_le, nJ_le_neg, ↓reduceIte, ld_ok, st_ok, rf_ok, ld_okL, st_okL, nJ_add, nJ_addL, nJ_Ladd, nJ_mul, nJ_mulL, nJ_Lmul, mS.2.2.2.2.2.2.1, e1, isRefused_no, e2, eS1.2.2.2.2.2.2.1, mS1.2.2.2.2.2.2.1, up_at, up_nk, nJ_subL, eS1.2.2.2.2.2.1, mS1.2.2.2.2.2.1, shl_1, nI_xor, shr_nI]
      unfold f_X12_isClosed
      simp (disch := omega) only [sg_cr, sg_cl, sg_lb, sg_pf, sg_pl, sg_nz, sg_nzl, sg_nar0, sg_nar1, lt_T, lt_F, le_T, le_F, eq_T, eq_F, ltL_T, ltL_F, leL_T, leL_F, eqL_T, eqL_F, Llt_T, Llt_F, Lle_T, Lle_F, Leq_T, Leq_F, n10_F, n01_F, le0_F, lt0_T, le0_T, eq0_F, lt1_F, nJ_not_neg, nJ_ne_neg, nJ_neg_lt, nJ_neg_le, nJ_le_neg, ↓reduceIte, ld_ok, st_ok, rf_ok, ld_okL, st_okL, nJ_add, nJ_addL, nJ_Ladd, nJ_mul, nJ_mulL, nJ_Lmul, up_at, has_nI]
      have hx := xor_lt oS.2.2.2.2.1 hk
      have hs : okS (aK A) (aY A) (setX (setK (aS A) (sK (aS A) - 1)) (sX (aS A) ^^^ 2 ^ k)) := ⟨oS.1, oS.2.1, oS.2.2.1, oS.2.2.2.1, hx, by show sK (aS A) - 1 ≤ 999; omega⟩
      have okx := now_ok ok1 h0 hs rfl
      have Cx := now_C (σ' := sg_up (sg_up σ1 37 6 (nI (sK (aS A) - 1))) 37 5 (nI (sX (aS A) ^^^ 2 ^ k))) ok1 C1 (Fr.tr (Fr.up (by unfold pb; omega)) (Fr.up (by unfold pb; omega))) (CS_X (CS_K eS1)) rfl
      have Mx := now_M (τ' := sg_up (sg_up τ1 21 32 (nI (sK (aS A) - 1))) 21 31 (nI (sX (aS A) ^^^ 2 ^ k))) M1 (Fr.tr (Fr.up (by unfold p21; omega)) (Fr.up (by unfold p21; omega))) (S := setX (setK (aS A) (sK (aS A) - 1)) (sX (aS A) ^^^ 2 ^ k)) (by rw [row21, row21]; exact MS_X ok.2.1 (MS_K ok.2.1 mS1)) rfl
      by_cases hb : (sX (aS A) ^^^ 2 ^ k).testBit k
      · simp only [hb, ↓reduceIte]
        exact ⟨_, _, _, _, rfl, rfl, okx, Cx, Mx⟩
      · simp only [hb, ↓reduceIte]
        exact ⟨_, _, _, _, rfl, rfl, okx, Cx, Mx⟩
    · simp (disch := omega) only [sg_cr, sg_cl, sg_lb, sg_pf, sg_pl, sg_nz, sg_nzl, sg_nar0, sg_nar1, lt_T, lt_F, le_T, le_F, eq_T, eq_F, ltL_T, ltL_F, leL_T, leL_F, eqL_T, eqL_F, Llt_T, Llt_F, Lle_T, Lle_F, Leq_T, Leq_F, n10_F, n01_F, le0_F, lt0_T, le0_T, eq0_F, lt1_F, nJ_not_neg, nJ_ne_neg, nJ_neg_lt, nJ_neg_le, nJ_le_neg, ↓reduceIte, ld_ok, st_ok, rf_ok, ld_okL, st_okL, nJ_add, nJ_addL, nJ_Ladd, nJ_mul, nJ_mulL, nJ_Lmul, mS.2.2.2.2.2.2.1]
      obtain ⟨σ', τ', h1, h2, h3, h4, h5⟩ := refused_eq (N := 10000) (w := 3) ok C M (by decide)
      exact ⟨-1, σ', τ', rA A 3, by rw [show f_X11_refuse 10000 3 σ = some (-1, σ') from h1], by rw [show f_X12_isRefused 10000 3 τ = some (1, τ') from h2]; rfl, h3, h4, h5⟩
  · rw [hasRoad_n eC.2.1 h, isRoad_n eM.2.1 h (by omega)]
    obtain ⟨σ', τ', h1, h2, h3, h4, h5⟩ := refused_eq (N := 10000) (w := 0) ok C M (by decide)
    exact ⟨-1, σ', τ', rA A 0, by simp only [sg_cr, ↓reduceIte]; rw [show f_X11_refuse 10000 0 σ = some (-1, σ') from h1]; rfl, by simp only [sg_cr, ↓reduceIte]; rw [show f_X12_isRefused 10000 0 τ = some (1, τ') from h2]; rfl, h3, h4, h5⟩
