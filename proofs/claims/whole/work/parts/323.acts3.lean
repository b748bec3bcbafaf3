theorem wI_lt {y n : Nat} (h : y < n) : wI (y + 1) = nI y := wI_s
theorem lw_O11_ok : lw_O11 Rel := by
  intro a1 a2
  refine rw_eq (fun A σ τ ok C M => ⟨10000, 10000, ?_⟩)
  have okL4 : (aL A).1 ≤ 4 := ok.2.2.1.1
  have okY4 : wN (aY A) ≤ 4 := ok.2.2.2.1.1
  have gC := RelC_iff.mp C
  have gM := RelM_iff.mp M
  have hs4 : cS (aK A) ≤ 4 := ok.2.1.2.2.1
  have hp : cP (aK A) ≤ 7 := ok.2.1.1
  have eC : CK (aK A) σ := gC.2.1
  have eM : MK (aK A) τ := gM.2.1
  have yC : CY (aY A) σ := gC.2.2.2.1
  have yM : MY (aY A) τ := gM.2.2.2.1
  have oY := ok.2.2.2.1
  unfold f_X11_puts f_X12_puts f_X12_puts_B61
  rcases nJ_rng a1 (cS (aK A)) (by omega) with ⟨w, hw, rfl⟩ | h
  · have h0 : cP (aK A) ≠ 0 := fun h => by have := (ok.2.1.2.2.2.1 h).2; omega
    have eS := gC.2.2.2.2.1.1 h0
    have mS := gM.2.2.2.2.1.1 h0
    have oS := ok.2.2.2.2.2.1 h0
    have hk9 := oS.2.2.2.2.2
    rw [hasSet_y eC.2.2.1 hw (by omega), isSet_y eM.2.2.1 hw (by omega)]
    rcases nJ_rng a2 (wN (aY A)) (by omega) with ⟨y, hy, rfl⟩ | h
    · have hyl := oY.2 y hy
      have h9 := hyl.2.2 0 (by omega)
      have eP : f_X10_placeAt 10000 (nI y) 0 σ = some (nI (wS (aY A) y 0)) := placeAt_y (i := 0) yC oY hy (by omega)
      rw [has_y yC.1 hy (by omega), isWay_y yM.1 hy (by omega), eP]
      have eb : f_X12_beginsAt 10000 (nI y) (nI (sP (aS A) w)) τ = some (if wS (aY A) y 0 = sP (aS A) w then 1 else 0) := by
        have hpl := (oS.1 w hw).1
        unfold f_X12_beginsAt
        rw [nJ_Lmul, ld_ok (by omega) (by decide), show τ.1 19 (12 * y) = nI (wS (aY A) y 0) from (yM.2 y hy).2 0 (by omega)]
        by_cases c : wS (aY A) y 0 = sP (aS A) w
        · rw [if_pos c, if_pos (by rw [c])]; rfl
        · rw [if_neg c, if_neg (by rw [nJ_eq (by omega) (by omega)]; exact c)]; rfl
      simp (disch := omega) only [sg_cr, sg_cl, sg_lb, sg_pf, sg_pl, sg_nz, sg_nzl, sg_nar0, sg_nar1, lt_T, lt_F, le_T, le_F, eq_T, eq_F, ltL_T, ltL_F, leL_T, leL_F, eqL_T, eqL_F, Llt_T, Llt_F, Lle_T, Lle_F, Leq_T, Leq_F, n10_F, n01_F, le0_F, lt0_T, le0_T, eq0_F, lt1_F, nJ_not_neg, nJ_ne_neg, nJ_neg_lt, nJ_neg_le, nJ_le_neg, ↓reduceIte, ld_ok, st_ok, rf_ok, ld_okL, st_okL, nJ_add, nJ_addL, nJ_Ladd, nJ_mul, nJ_mulL, nJ_Lmul, eS.1 w hw, show τ.1 21 (0 + w) = nI (sP (aS A) w) from (by rw [Nat.zero_add]; exact mS.1 w hw), eb]
      have hpl := (oS.1 w hw).1
      by_cases c : wS (aY A) y 0 = sP (aS A) w
      · simp (disch := omega) only [sg_cr, sg_cl, sg_lb, sg_pf, sg_pl, sg_nz, sg_nzl, sg_nar0, sg_nar1, lt_T, lt_F, le_T, le_F, eq_T, eq_F, ltL_T, ltL_F, leL_T, leL_F, eqL_T, eqL_F, Llt_T, Llt_F, Lle_T, Lle_F, Leq_T, Leq_F, n10_F, n01_F, le0_F, lt0_T, le0_T, eq0_F, lt1_F, nJ_not_neg, nJ_ne_neg, nJ_neg_lt, nJ_neg_le, nJ_le_neg, ↓reduceIte, ld_ok, st_ok, rf_ok, ld_okL, st_okL, nJ_add, nJ_addL, nJ_Ladd, nJ_mul, nJ_mulL, nJ_Lmul, eS.2.2.2.2.2.2.1, mS.2.2.2.2.2.2.1, if_pos c]
        by_cases hc : 3 ≤ sK (aS A)
        · obtain ⟨σ1, e1, C1⟩ := remember_ok (N := 10000) ok h0 C
          obtain ⟨τ1, e2, M1⟩ := keep_ok (N := 10000) (by decide) ok h0 M
          have ok1 := kP_ok ok h0
          have eS1 : CS (aK A) (aS A) 37 σ1 := (RelC_iff.mp C1).2.2.2.2.1.1 h0
          have mS1 : MS (aK A) (aS A) (τ1.1 21) := (RelM_iff.mp M1).2.2.2.2.1.1 h0
          have yC1 : CY (aY A) σ1 := (RelC_iff.mp C1).2.2.2.1
          have yM1 : MY (aY A) τ1 := (RelM_iff.mp M1).2.2.2.1
          unfold f_X8_putTo f_X12_putNow
          simp (disch := omega) only [sg_cr, sg_cl, sg_lb, sg_pf, sg_pl, sg_nz, sg_nzl, sg_nar0, sg_nar1, lt_T, lt_F, le_T, le_F, eq_T, eq_F, ltL_T, ltL_F, leL_T, leL_F, eqL_T, eqL_F, Llt_T, Llt_F, Lle_T, Lle_F, Leq_T, Leq_F, n10_F, n01_F, le0_F, lt0_T, le0_T, eq0_F, lt1_F, nJ_not_neg, nJ_ne_neg, nJ_neg_lt, nJ_neg_le, nJ_le_neg, ↓reduceIte, ld_ok, st_ok, rf_ok, ld_okL, st_okL, nJ_add, nJ_addL, nJ_Ladd, nJ_mul, nJ_mulL, nJ_Lmul, e1, isRefused_no, e2, eS1.2.2.2.2.2.2.1, mS1.2.2.2.2.2.2.1, up_ne, nJ_subL, (yC1.2 y hy).1, (yM1.2 y hy).1]
          have hs : okS (aK A) (aY A) (setW (setK (aS A) (sK (aS A) - 3)) w (y + 1) 1) := by
            refine ⟨fun q hq => ?_, fun q h1 h2 => ?_, oS.2.2.1, oS.2.2.2.1, oS.2.2.2.2.1, by show sK (aS A) - 3 ≤ 999; omega⟩
            · refine ⟨(oS.1 q hq).1, ?_, ?_, ?_⟩
              · show (if q = w then y + 1 else sW (aS A) q) ≤ _
                by_cases cq : q = w
                · rw [if_pos cq]; omega
                · rw [if_neg cq]; exact (oS.1 q hq).2.1
              · show (if q = w then y + 1 else sW (aS A) q) = 0 → (if q = w then 1 else sB (aS A) q) = 0
                by_cases cq : q = w
                · rw [if_pos cq, if_pos cq]; intro h; omega
                · rw [if_neg cq, if_neg cq]; exact (oS.1 q hq).2.2.1
              · show (if q = w then y + 1 else sW (aS A) q) ≠ 0 → 1 ≤ (if q = w then 1 else sB (aS A) q) ∧ (if q = w then 1 else sB (aS A) q) < wL (aY A) ((if q = w then y + 1 else sW (aS A) q) - 1)
                by_cases cq : q = w
                · rw [if_pos cq, if_pos cq]; intro _; rw [Nat.add_sub_cancel]; omega
                · rw [if_neg cq, if_neg cq]; exact (oS.1 q hq).2.2.2
            · show (if q = w then y + 1 else sW (aS A) q) = 0
              rw [if_neg (by omega)]; exact oS.2.1 q h1 h2
          have okx := now_ok ok1 h0 hs rfl
          have cw := CS_W (w := w) (y := y + 1) (b := 1) (CS_K (c := sK (aS A) - 3) eS1)
          rw [wI_s] at cw
          have mw := MS_W (w := w) (y := y + 1) (b := 1) ok.2.1 hw (MS_K (c := sK (aS A) - 3) ok.2.1 mS1)
          rw [wI_s] at mw
          refine ⟨_, _, _, _, rfl, rfl, okx, now_C ok1 C1 (Fr.tr (Fr.tr (Fr.up (by unfold pb; omega)) (Fr.up (by unfold pb; omega))) (Fr.up (by unfold pb; omega))) cw rfl, now_M M1 (Fr.tr (Fr.tr (Fr.up (by unfold p21; omega)) (Fr.up (by unfold p21; omega))) (Fr.up (by unfold p21; omega))) ?_ rfl⟩
          rw [row21, row21, row21]
          exact mw
        · simp (disch := omega) only [sg_cr, sg_cl, sg_lb, sg_pf, sg_pl, sg_nz, sg_nzl, sg_nar0, sg_nar1, lt_T, lt_F, le_T, le_F, eq_T, eq_F, ltL_T, ltL_F, leL_T, leL_F, eqL_T, eqL_F, Llt_T, Llt_F, Lle_T, Lle_F, Leq_T, Leq_F, n10_F, n01_F, le0_F, lt0_T, le0_T, eq0_F, lt1_F, nJ_not_neg, nJ_ne_neg, nJ_neg_lt, nJ_neg_le, nJ_le_neg, ↓reduceIte, ld_ok, st_ok, rf_ok, ld_okL, st_okL, nJ_add, nJ_addL, nJ_Ladd, nJ_mul, nJ_mulL, nJ_Lmul]
          obtain ⟨σ', τ', h1, h2, h3, h4, h5⟩ := refused_eq (N := 10000) (w := 3) ok C M (by decide)
          exact ⟨-1, σ', τ', rA A 3, by rw [show f_X11_refuse 10000 3 σ = some (-1, σ') from h1], by rw [show f_X12_isRefused 10000 3 τ = some (1, τ') from h2]; rfl, h3, h4, h5⟩
      · simp (disch := omega) only [sg_cr, sg_cl, sg_lb, sg_pf, sg_pl, sg_nz, sg_nzl, sg_nar0, sg_nar1, lt_T, lt_F, le_T, le_F, eq_T, eq_F, ltL_T, ltL_F, leL_T, leL_F, eqL_T, eqL_F, Llt_T, Llt_F, Lle_T, Lle_F, Leq_T, Leq_F, n10_F, n01_F, le0_F, lt0_T, le0_T, eq0_F, lt1_F, nJ_not_neg, nJ_ne_neg, nJ_neg_lt, nJ_neg_le, nJ_le_neg, ↓reduceIte, ld_ok, st_ok, rf_ok, ld_okL, st_okL, nJ_add, nJ_addL, nJ_Ladd, nJ_mul, nJ_mulL, nJ_Lmul, if_neg c]
        obtain ⟨σ', τ', h1, h2, h3, h4, h5⟩ := refused_eq (N := 10000) (w := 2) ok C M (by decide)
        exact ⟨-1, σ', τ', rA A 2, by rw [show f_X11_refuse 10000 2 σ = some (-1, σ') from h1], by rw [show f_X12_isRefused 10000 2 τ = some (1, τ') from h2]; rfl, h3, h4, h5⟩
    · rw [has_n yC.1 h, isWay_n yM.1 h (by omega)]
      simp only [sg_cr, sg_cl, sg_lb, sg_pf, sg_pl, sg_nz, sg_nzl, sg_nar0, sg_nar1, n10_F, ↓reduceIte]
      obtain ⟨σ', τ', h1, h2, h3, h4, h5⟩ := refused_eq (N := 10000) (w := 1) ok C M (by decide)
      exact ⟨-1, σ', τ', rA A 1, by rw [show f_X11_refuse 10000 1 σ = some (-1, σ') from h1], by rw [show f_X12_isRefused 10000 1 τ = some (1, τ') from h2]; rfl, h3, h4, h5⟩
  · rw [hasSet_n eC.2.2.1 h, isSet_n eM.2.2.1 h (by omega)]
    simp only [sg_cr, sg_cl, sg_lb, sg_pf, sg_pl, sg_nz, sg_nzl, sg_nar0, sg_nar1, n10_F, ↓reduceIte]
    obtain ⟨σ', τ', h1, h2, h3, h4, h5⟩ := refused_eq (N := 10000) (w := 0) ok C M (by decide)
    exact ⟨-1, σ', τ', rA A 0, by rw [show f_X11_refuse 10000 0 σ = some (-1, σ') from h1], by rw [show f_X12_isRefused 10000 0 τ = some (1, τ') from h2]; rfl, h3, h4, h5⟩
theorem okS_drop {K : Cty} {Y : Wys} {S : Sta} {w p c : Nat} (oS : okS K Y S) (hp : p < cP K) (hc : c ≤ 999) (hw4 : w < cS K) : okS K Y (setW (setP (setK S c) w p) w 0 0) := by
  refine ⟨fun q hq => ?_, fun q h1 h2 => ?_, oS.2.2.1, oS.2.2.2.1, oS.2.2.2.2.1, hc⟩
  · refine ⟨?_, ?_, ?_, ?_⟩
    · show (if q = w then p else sP S q) < _
      by_cases cq : q = w
      · rw [if_pos cq]; exact hp
      · rw [if_neg cq]; exact (oS.1 q hq).1
    · show (if q = w then 0 else sW S q) ≤ _
      by_cases cq : q = w
      · rw [if_pos cq]; omega
      · rw [if_neg cq]; exact (oS.1 q hq).2.1
    · show (if q = w then 0 else sW S q) = 0 → (if q = w then 0 else sB S q) = 0
      by_cases cq : q = w
      · rw [if_pos cq, if_pos cq]; intro _; rfl
      · rw [if_neg cq, if_neg cq]; exact (oS.1 q hq).2.2.1
    · show (if q = w then 0 else sW S q) ≠ 0 → 1 ≤ (if q = w then 0 else sB S q) ∧ (if q = w then 0 else sB S q) < wL Y ((if q = w then 0 else sW S q) - 1)
      by_cases cq : q = w
      · rw [if_pos cq]; intro h; exact absurd rfl h
      · rw [if_neg cq, if_neg cq]; exact (oS.1 q hq).2.2.2
  · show (if q = w then 0 else sW S q) = 0
    by_cases cq : q = w
    · rw [if_pos cq]
    · rw [if_neg cq]; exact oS.2.1 q h1 h2
theorem lw_O12_ok : lw_O12 Rel := by
  intro a1 a2
  refine rw_eq (fun A σ τ ok C M => ⟨10000, 10000, ?_⟩)
  have okL4 : (aL A).1 ≤ 4 := ok.2.2.1.1
  have okY4 : wN (aY A) ≤ 4 := ok.2.2.2.1.1
  have gC := RelC_iff.mp C
  have gM := RelM_iff.mp M
  have hs4 : cS (aK A) ≤ 4 := ok.2.1.2.2.1
  have hp : cP (aK A) ≤ 7 := ok.2.1.1
  have eC : CK (aK A) σ := gC.2.1
  have eM : MK (aK A) τ := gM.2.1
  unfold f_X11_carries f_X12_carries f_X12_carries_B57
  rcases nJ_rng a1 (cS (aK A)) (by omega) with ⟨w, hw, rfl⟩ | h
  · have h0 : cP (aK A) ≠ 0 := fun h => by have := (ok.2.1.2.2.2.1 h).2; omega
    have eS := gC.2.2.2.2.1.1 h0
    have mS := gM.2.2.2.2.1.1 h0
    have oS := ok.2.2.2.2.2.1 h0
    have hk9 := oS.2.2.2.2.2
    have hpl := (oS.1 w hw).1
    rw [hasSet_y eC.2.2.1 hw (by omega), isSet_y eM.2.2.1 hw (by omega)]
    rcases nJ_rng a2 (cP (aK A)) (by omega) with ⟨p, hpp, rfl⟩ | h
    · rw [hasPlace_y eC.1 hpp (by omega), isPlace_y eM.1 hpp (by omega)]
      simp (disch := omega) only [sg_cr, sg_cl, sg_lb, sg_pf, sg_pl, sg_nz, sg_nzl, sg_nar0, sg_nar1, lt_T, lt_F, le_T, le_F, eq_T, eq_F, ltL_T, ltL_F, leL_T, leL_F, eqL_T, eqL_F, Llt_T, Llt_F, Lle_T, Lle_F, Leq_T, Leq_F, n10_F, n01_F, le0_F, lt0_T, le0_T, eq0_F, lt1_F, nJ_not_neg, nJ_ne_neg, nJ_neg_lt, nJ_neg_le, nJ_le_neg, ↓reduceIte, ld_ok, st_ok, rf_ok, ld_okL, st_okL, nJ_add, nJ_addL, nJ_Ladd, nJ_mul, nJ_mulL, nJ_Lmul, eS.1 w hw, show τ.1 21 (0 + w) = nI (sP (aS A) w) from (by rw [Nat.zero_add]; exact mS.1 w hw)]
      by_cases c : sP (aS A) w = p
      · simp (disch := omega) only [sg_cr, sg_cl, sg_lb, sg_pf, sg_pl, sg_nz, sg_nzl, sg_nar0, sg_nar1, lt_T, lt_F, le_T, le_F, eq_T, eq_F, ltL_T, ltL_F, leL_T, leL_F, eqL_T, eqL_F, Llt_T, Llt_F, Lle_T, Lle_F, Leq_T, Leq_F, n10_F, n01_F, le0_F, lt0_T, le0_T, eq0_F, lt1_F, nJ_not_neg, nJ_ne_neg, nJ_neg_lt, nJ_neg_le, nJ_le_neg, ↓reduceIte, ld_ok, st_ok, rf_ok, ld_okL, st_okL, nJ_add, nJ_addL, nJ_Ladd, nJ_mul, nJ_mulL, nJ_Lmul]
        obtain ⟨σ', τ', h1, h2, h3, h4, h5⟩ := refused_eq (N := 10000) (w := 2) ok C M (by decide)
        exact ⟨-1, σ', τ', rA A 2, by rw [show f_X11_refuse 10000 2 σ = some (-1, σ') from h1], by rw [show f_X12_isRefused 10000 2 τ = some (1, τ') from h2]; rfl, h3, h4, h5⟩
      · simp (disch := omega) only [sg_cr, sg_cl, sg_lb, sg_pf, sg_pl, sg_nz, sg_nzl, sg_nar0, sg_nar1, lt_T, lt_F, le_T, le_F, eq_T, eq_F, ltL_T, ltL_F, leL_T, leL_F, eqL_T, eqL_F, Llt_T, Llt_F, Lle_T, Lle_F, Leq_T, Leq_F, n10_F, n01_F, le0_F, lt0_T, le0_T, eq0_F, lt1_F, nJ_not_neg, nJ_ne_neg, nJ_neg_lt, nJ_neg_le, nJ_le_neg, ↓reduceIte, ld_ok, st_ok, rf_ok, ld_okL, st_okL, nJ_add, nJ_addL, nJ_Ladd, nJ_mul, nJ_mulL, nJ_Lmul, eS.2.2.2.2.2.2.1, mS.2.2.2.2.2.2.1]
        by_cases hc : 2 ≤ sK (aS A)
        · obtain ⟨σ1, e1, C1⟩ := remember_ok (N := 10000) ok h0 C
          obtain ⟨τ1, e2, M1⟩ := keep_ok (N := 10000) (by decide) ok h0 M
          have ok1 := kP_ok ok h0
          have eS1 : CS (aK A) (aS A) 37 σ1 := (RelC_iff.mp C1).2.2.2.2.1.1 h0
          have mS1 : MS (aK A) (aS A) (τ1.1 21) := (RelM_iff.mp M1).2.2.2.2.1.1 h0
          unfold f_X8_takeWay f_X12_dropWay
          simp (disch := omega) only [sg_cr, sg_cl, sg_lb, sg_pf, sg_pl, sg_nz, sg_nzl, sg_nar0, sg_nar1, lt_T, lt_F, le_T, le_F, eq_T, eq_F, ltL_T, ltL_F, leL_T, leL_F, eqL_T, eqL_F, Llt_T, Llt_F, Lle_T, Lle_F, Leq_T, Leq_F, n10_F, n01_F, le0_F, lt0_T, le0_T, eq0_F, lt1_F, nJ_not_neg, nJ_ne_neg, nJ_neg_lt, nJ_neg_le, nJ_le_neg, ↓reduceIte, ld_ok, st_ok, rf_ok, ld_okL, st_okL, nJ_add, nJ_addL, nJ_Ladd, nJ_mul, nJ_mulL, nJ_Lmul, e1, isRefused_no, e2, eS1.2.2.2.2.2.2.1, mS1.2.2.2.2.2.2.1, nJ_subL, show τ1.1 21 (0 + w) = nI (sP (aS A) w) from (by rw [Nat.zero_add]; exact mS1.1 w hw)]
          have okx := now_ok ok1 h0 (okS_drop (w := w) (p := p) (c := sK (aS A) - 2) oS hpp (by omega) hw) rfl
          have cw := CS_W (w := w) (y := 0) (b := 0) (CS_P (w := w) (p := p) (CS_K (c := sK (aS A) - 2) eS1))
          have mw := MS_W (w := w) (y := 0) (b := 0) ok.2.1 hw (MS_P (w := w) (p := p) ok.2.1 hw (MS_K (c := sK (aS A) - 2) ok.2.1 mS1))
          refine ⟨_, _, _, _, rfl, rfl, okx, now_C ok1 C1 (Fr.tr (Fr.tr (Fr.tr (Fr.up (by unfold pb; omega)) (Fr.up (by unfold pb; omega))) (Fr.up (by unfold pb; omega))) (Fr.up (by unfold pb; omega))) cw rfl, now_M M1 (Fr.tr (Fr.tr (Fr.tr (Fr.up (by unfold p21; omega)) (Fr.up (by unfold p21; omega))) (Fr.up (by unfold p21; omega))) (Fr.up (by unfold p21; omega))) ?_ rfl⟩
          rw [row21, row21, row21, row21, Nat.zero_add]
          exact mw
        · simp (disch := omega) only [sg_cr, sg_cl, sg_lb, sg_pf, sg_pl, sg_nz, sg_nzl, sg_nar0, sg_nar1, lt_T, lt_F, le_T, le_F, eq_T, eq_F, ltL_T, ltL_F, leL_T, leL_F, eqL_T, eqL_F, Llt_T, Llt_F, Lle_T, Lle_F, Leq_T, Leq_F, n10_F, n01_F, le0_F, lt0_T, le0_T, eq0_F, lt1_F, nJ_not_neg, nJ_ne_neg, nJ_neg_lt, nJ_neg_le, nJ_le_neg, ↓reduceIte, ld_ok, st_ok, rf_ok, ld_okL, st_okL, nJ_add, nJ_addL, nJ_Ladd, nJ_mul, nJ_mulL, nJ_Lmul]
          obtain ⟨σ', τ', h1, h2, h3, h4, h5⟩ := refused_eq (N := 10000) (w := 3) ok C M (by decide)
          exact ⟨-1, σ', τ', rA A 3, by rw [show f_X11_refuse 10000 3 σ = some (-1, σ') from h1], by rw [show f_X12_isRefused 10000 3 τ = some (1, τ') from h2]; rfl, h3, h4, h5⟩
    · rw [hasPlace_n eC.1 h, isPlace_n eM.1 h (by omega)]
      simp only [sg_cr, sg_cl, sg_lb, sg_pf, sg_pl, sg_nz, sg_nzl, sg_nar0, sg_nar1, n10_F, ↓reduceIte]
      obtain ⟨σ', τ', h1, h2, h3, h4, h5⟩ := refused_eq (N := 10000) (w := 1) ok C M (by decide)
      exact ⟨-1, σ', τ', rA A 1, by rw [show f_X11_refuse 10000 1 σ = some (-1, σ') from h1], by rw [show f_X12_isRefused 10000 1 τ = some (1, τ') from h2]; rfl, h3, h4, h5⟩
  · rw [hasSet_n eC.2.2.1 h, isSet_n eM.2.2.1 h (by omega)]
    simp only [sg_cr, sg_cl, sg_lb, sg_pf, sg_pl, sg_nz, sg_nzl, sg_nar0, sg_nar1, n10_F, ↓reduceIte]
    obtain ⟨σ', τ', h1, h2, h3, h4, h5⟩ := refused_eq (N := 10000) (w := 0) ok C M (by decide)
    exact ⟨-1, σ', τ', rA A 0, by rw [show f_X11_refuse 10000 0 σ = some (-1, σ') from h1], by rw [show f_X12_isRefused 10000 0 τ = some (1, τ') from h2]; rfl, h3, h4, h5⟩
/-! wheels -/
theorem lw_O6_ok : lw_O6 Rel := by
  rintro a1 a2 σ τ ⟨A, ok, C, M⟩
  have okL4 : (aL A).1 ≤ 4 := ok.2.2.1.1
  have okY4 : wN (aY A) ≤ 4 := ok.2.2.2.1.1
  have gC := RelC_iff.mp C
  have gM := RelM_iff.mp M
  have hs4 : cS (aK A) ≤ 4 := ok.2.1.2.2.1
  have eC : CK (aK A) σ := gC.2.1
  have eM : MK (aK A) τ := gM.2.1
  have key : ∀ v, Rel σ (sg_up τ 0 0 v) := fun v => ⟨A, ok, C, RelM_fr M (Fr.up (by unfold scM; omega))⟩
  have bad : ∀ (N M : Nat), f_X12_wheels_B23 M a1 a2 1 τ = some (0, sg_up τ 0 0 1) := fun N M => by
    unfold f_X12_wheels_B23
    simp only [sg_pf, up_at, ↓reduceIte]
  refine ⟨0, 0, 0, ?_⟩
  unfold f_X11_wheels f_X12_wheels f_X12_thrown
  rcases nJ_rng a1 (cS (aK A)) (by omega) with ⟨w, hw, rfl⟩ | h
  · have h0 : cP (aK A) ≠ 0 := fun h => by have := (ok.2.1.2.2.2.1 h).2; omega
    have eS := gC.2.2.2.2.1.1 h0
    have mS := gM.2.2.2.2.1.1 h0
    rw [hasSet_y eC.2.2.1 hw (by omega), isSet_y eM.2.2.1 hw (by omega), inL (m := 2) (by decide)]
    rcases nJ_rng a2 (2 + 1) (by decide) with ⟨k, hk, rfl⟩ | h
    · rw [in_y hk (by decide)]
      unfold f_X12_wheels_B23
      rcases k with _ | _ | _ | k
      · simp (disch := omega) only [sg_cr, sg_cl, sg_lb, sg_pf, sg_pl, sg_nz, sg_nzl, sg_nar0, sg_nar1, lt_T, lt_F, le_T, le_F, eq_T, eq_F, ltL_T, ltL_F, leL_T, leL_F, eqL_T, eqL_F, Llt_T, Llt_F, Lle_T, Lle_F, Leq_T, Leq_F, n10_F, n01_F, le0_F, lt0_T, le0_T, eq0_F, lt1_F, nJ_not_neg, nJ_ne_neg, nJ_neg_lt, nJ_neg_le, nJ_le_neg, ↓reduceIte, ld_ok, st_ok, rf_ok, ld_okL, st_okL, nJ_add, nJ_addL, nJ_Ladd, nJ_mul, nJ_mulL, nJ_Lmul, up_at, up_ne]
        exact ⟨_, _, _, _, rfl, rfl, rfl, key 0, Or.inr ⟨by rw [show σ.1 38 w = nI (sP (aS A) w) from eS.1 w hw, show τ.1 21 (4 * 0 + w) = nI (sP (aS A) w) from (by rw [Nat.mul_zero, Nat.zero_add]; exact mS.1 w hw)], up_at⟩⟩
      · simp (disch := omega) only [sg_cr, sg_cl, sg_lb, sg_pf, sg_pl, sg_nz, sg_nzl, sg_nar0, sg_nar1, lt_T, lt_F, le_T, le_F, eq_T, eq_F, ltL_T, ltL_F, leL_T, leL_F, eqL_T, eqL_F, Llt_T, Llt_F, Lle_T, Lle_F, Leq_T, Leq_F, n10_F, n01_F, le0_F, lt0_T, le0_T, eq0_F, lt1_F, nJ_not_neg, nJ_ne_neg, nJ_neg_lt, nJ_neg_le, nJ_le_neg, ↓reduceIte, ld_ok, st_ok, rf_ok, ld_okL, st_okL, nJ_add, nJ_addL, nJ_Ladd, nJ_mul, nJ_mulL, nJ_Lmul, up_at, up_ne]
        exact ⟨_, _, _, _, rfl, rfl, rfl, key 0, Or.inr ⟨by rw [show σ.1 39 w = wI (sW (aS A) w) from eS.2.1 w (by omega), show τ.1 21 (4 * (0 + 1) + w) = wI (sW (aS A) w) from mS.2.1 w hw], up_at⟩⟩
      · simp (disch := omega) only [sg_cr, sg_cl, sg_lb, sg_pf, sg_pl, sg_nz, sg_nzl, sg_nar0, sg_nar1, lt_T, lt_F, le_T, le_F, eq_T, eq_F, ltL_T, ltL_F, leL_T, leL_F, eqL_T, eqL_F, Llt_T, Llt_F, Lle_T, Lle_F, Leq_T, Leq_F, n10_F, n01_F, le0_F, lt0_T, le0_T, eq0_F, lt1_F, nJ_not_neg, nJ_ne_neg, nJ_neg_lt, nJ_neg_le, nJ_le_neg, ↓reduceIte, ld_ok, st_ok, rf_ok, ld_okL, st_okL, nJ_add, nJ_addL, nJ_Ladd, nJ_mul, nJ_mulL, nJ_Lmul, up_at, up_ne]
        exact ⟨_, _, _, _, rfl, rfl, rfl, key 0, Or.inr ⟨by rw [show σ.1 40 w = nI (sB (aS A) w) from eS.2.2.1 w hw, show τ.1 21 (4 * (0 + 1 + 1) + w) = nI (sB (aS A) w) from mS.2.2.1 w hw], up_at⟩⟩
      · omega
    · rw [in_n h (by decide)]
      simp only [sg_cr, sg_cl, sg_lb, sg_pf, sg_pl, sg_nz, sg_nzl, sg_nar0, sg_nar1, n10_F, ↓reduceIte]
      rw [bad 0 0]
      refine ⟨none, 0, 1, sg_up τ 0 0 1, ?_, rfl, by rw [up_at], key 1, Or.inl ⟨rfl, rfl⟩⟩
      by_cases h1 : a2 < 0
      · rw [if_pos h1]
      · rw [if_neg h1, if_neg]
        rcases nJ_cases a2 with hx | ⟨q, hq, rfl⟩
        · exact absurd hx h1
        · have h2 := h.resolve_left h1
          rw [nJ_le (by decide) hq] at h2
          rw [nJ_leL hq (by decide)]; omega
  · rw [hasSet_n eC.2.2.1 h, isSet_n eM.2.2.1 h (by omega)]
    simp only [sg_cr, sg_cl, sg_lb, sg_pf, sg_pl, sg_nz, sg_nzl, sg_nar0, sg_nar1, n10_F, ↓reduceIte]
    rw [bad 0 0]
    exact ⟨none, 0, 1, sg_up τ 0 0 1, rfl, rfl, by rw [up_at], key 1, Or.inl ⟨rfl, rfl⟩⟩
