/-! undo, image, back -/
def uI (A : Abs) (x : Nat × Sta × (Nat → Nat → Int32)) : Abs := (A.1, A.2.1, A.2.2.1, A.2.2.2.1, A.2.2.2.2.1, A.2.2.2.2.2.1, x, A.2.2.2.2.2.2.2)
theorem CLg_mono {L : Nat → Nat → Int32} {lo d lo' d' : Nat} {R : Nat → Int32} (h : CLg L lo d R) (h1 : lo ≤ lo') (h2 : d' ≤ d) : CLg L lo' d' R := fun e a b j hj => h e (by omega) (by omega) j hj
theorem aD_mono {A : Abs} (ok : okA A) : ∀ a b, a ≤ b → b ≤ aN A → aD A a ≤ aD A b := by
  intro a b hab hb
  induction b with
  | zero => rw [show a = 0 by omega]; exact Nat.le_refl _
  | succ b ih =>
    by_cases c : a = b + 1
    · rw [c]; exact Nat.le_refl _
    · exact Nat.le_trans (ih (by omega) (by omega)) (ok.2.2.2.2.2.2.1.2.2.1 b (by omega)).1
theorem aD_now {A : Abs} : aD A (aN A) = sD (aS A) := if_neg (by omega)
theorem aD_lt {A : Abs} {a : Nat} (h : a < aN A) : aD A a = sD (aH A a) := if_pos h
theorem copy21 {N : Nat} {τ : sgS} {c so : Nat} {b : sgS × Int32 → Option ((Int32 × sgS) ⊕ ((sgS × Int32) ⊕ (sgS)))} (hN : 10000 ≤ N) (hc : c ≠ 21) (hb : ∀ k, k < 215 → ∀ f, b (sg_row τ 21 f, nI k) = some (.inr (.inl (sg_up (sg_row τ 21 f) 21 k (τ.1 c (so + k)), nI (k + 1))))) (he : ∀ x, b (x, nI 215) = some (.inr (.inr x))) : sg_lp b N ((τ, 0)) = some (.inr (sg_row τ 21 (va_cpy (τ.1 c) (τ.1 21) so 0 215))) := by
  have h := lp_for (b := b) (fun k => (sg_row τ 21 (va_cpy (τ.1 c) (τ.1 21) so 0 k), nI k)) 215 (sg_row τ 21 (va_cpy (τ.1 c) (τ.1 21) so 0 215)) (fun k hk => by
    have e := cpy_s (τ := τ) (c := 21) (so := so) (d := 0) (k := k) (f := τ.1 c) (g := τ.1 21)
    rw [Nat.zero_add] at e
    rw [hb k hk, e]) (he _) N 0 (by omega) (by omega)
  rw [cpy_0] at h
  exact h
theorem lw_O18_ok : lw_O18 Rel := by
  refine rw_eq (fun A σ τ ok C M => ⟨10000, 10000, ?_⟩)
  have okL4 : (aL A).1 ≤ 4 := ok.2.2.1.1
  have okY4 : wN (aY A) ≤ 4 := ok.2.2.2.1.1
  have gC := RelC_iff.mp C
  have gM := RelM_iff.mp M
  obtain ⟨p1, nx, p2, p3, p4⟩ := (gC.2.2.2.2.2.1 : CPast A σ)
  obtain ⟨m1, m2⟩ := (gM.2.2.2.2.2.1 : MPast A τ)
  have o := ok.2.2.2.2.2.2.1
  have h40 := o.1
  unfold f_X11_undo f_X6_undoOne f_X12_undo
  by_cases c : aN A = 0
  · rw [p1, m1, c]
    exact ⟨-1, σ, τ, A, rfl, rfl, ok, C, M⟩
  · have h0 : cP (aK A) ≠ 0 := fun h => c (ok.2.2.2.2.1 h).2.1
    have hn1 : aN A - 1 < aN A := by omega
    -- the class
    have hq : (nx + 40 - 1) % 40 = (nx + 40 - aN A + (aN A - 1)) % 40 := by omega
    have hc4 : CS (aK A) (aH A (aN A - 1)) (62 + 6 * ((nx + 40 - 1) % 40)) σ := by rw [hq]; exact p4 _ hn1
    have hc5 : CS (aK A) (aH A (aN A - 1)) (62 + 6 * ((nx + 40 - 1) % 40)) (sg_up (sg_up σ 52 2 (nI ((nx + 40 - 1) % 40))) 52 1 (nI (aN A - 1))) := by
      refine CS_congr (fun j hj => ?_) hc4
      rw [up_ne (by omega), up_ne (by omega)]
    obtain ⟨σ1, e1, s1, f1⟩ := copyFrom_ok (N := 10000) (o := 37) (q := 62 + 6 * ((nx + 40 - 1) % 40)) ok.2.1 (by omega) hc5
    have f2 : Fr (fun j k => pb 37 42 j k ∨ (j = 52 ∧ (k = 1 ∨ k = 2))) σ σ1 := Fr.tr (Fr.tr (Fr.up (Or.inr ⟨rfl, Or.inr rfl⟩)) (Fr.up (Or.inr ⟨rfl, Or.inl rfl⟩))) (f1.mono (fun j k h => Or.inl h))
    have r1 : σ1.1 52 1 = nI (aN A - 1) := by rw [f1 52 1 (by unfold pb; omega)]; exact up_at
    have r2 : σ1.1 52 2 = nI ((nx + 40 - 1) % 40) := by rw [f1 52 2 (by unfold pb; omega), up_nk (by decide)]; exact up_at
    -- the reference
    have hm := m2 (aN A - 1) hn1
    have em : ∀ k, k < 215 → va_cpy (τ.1 25) (τ.1 21) (215 * (aN A - 1)) 0 215 k = τ.1 25 (215 * (aN A - 1) + k) := fun k hk => by rw [cpy_get, if_pos (by omega), Nat.sub_zero]
    have lpM : sg_lp (fun x => f_X12_undo_L21 10000 x.2 x.1) 10000 ((sg_up τ 0 42 (nI (aN A - 1)), 0)) = some (.inr (sg_row (sg_up τ 0 42 (nI (aN A - 1))) 21 (va_cpy (τ.1 25) (τ.1 21) (215 * (aN A - 1)) 0 215))) := by
      have := copy21 (N := 10000) (τ := sg_up τ 0 42 (nI (aN A - 1))) (c := 25) (so := 215 * (aN A - 1)) (b := fun x => f_X12_undo_L21 10000 x.2 x.1) (by decide) (by decide) (fun k hk f => by
        show f_X12_undo_L21 10000 (nI k) _ = _
        unfold f_X12_undo_L21
        rw [sg_row_nt (by decide), up_at]
        simp (disch := omega) only [sg_cr, sg_cl, sg_lb, sg_pf, sg_pl, sg_nz, sg_nzl, sg_nar0, sg_nar1, lt_T, lt_F, le_T, le_F, eq_T, eq_F, ltL_T, ltL_F, leL_T, leL_F, eqL_T, eqL_F, Llt_T, Llt_F, Lle_T, Lle_F, Leq_T, Leq_F, n10_F, n01_F, le0_F, lt0_T, le0_T, eq0_F, lt1_F, nJ_not_neg, nJ_ne_neg, nJ_neg_lt, nJ_neg_le, nJ_le_neg, ↓reduceIte, ld_ok, st_ok, rf_ok, ld_okL, st_okL, nJ_add, nJ_addL, nJ_Ladd, nJ_mul, nJ_mulL, nJ_Lmul, sg_row_nt]) (fun x => by
        show f_X12_undo_L21 10000 (nI 215) x = _
        unfold f_X12_undo_L21
        simp (disch := omega) only [sg_cr, sg_cl, sg_lb, sg_pf, sg_pl, sg_nz, sg_nzl, sg_nar0, sg_nar1, lt_T, lt_F, le_T, le_F, eq_T, eq_F, ltL_T, ltL_F, leL_T, leL_F, eqL_T, eqL_F, Llt_T, Llt_F, Lle_T, Lle_F, Leq_T, Leq_F, n10_F, n01_F, le0_F, lt0_T, le0_T, eq0_F, lt1_F, nJ_not_neg, nJ_ne_neg, nJ_neg_lt, nJ_neg_le, nJ_le_neg, ↓reduceIte, ld_ok, st_ok, rf_ok, ld_okL, st_okL, nJ_add, nJ_addL, nJ_Ladd, nJ_mul, nJ_mulL, nJ_Lmul])
      rw [up_ne (by decide), up_ne (by decide)] at this
      exact this
    have fM : Fr (fun j k => j = 21 ∨ (j = 0 ∧ k = 42)) τ (sg_row (sg_up τ 0 42 (nI (aN A - 1))) 21 (va_cpy (τ.1 25) (τ.1 21) (215 * (aN A - 1)) 0 215)) := Fr.tr (Fr.up (Or.inr ⟨rfl, rfl⟩)) (Fr.row (fun k => Or.inl rfl))
    have fC := f2
    have hday : aD A (aN A - 1) ≤ sD (aS A) := by have := aD_mono ok (aN A - 1) (aN A) (by omega) (Nat.le_refl _); rw [aD_now] at this; exact this
    have hd1 : aD A (aN A - 1) = sD (aH A (aN A - 1)) := aD_lt hn1
    refine ⟨nI (aN A - 1), σ1, _, uP (uS A (aH A (aN A - 1), aG A)) (aN A - 1, aH A, aO A), ?_, by rw [m1]; simp (disch := omega) only [sg_cr, sg_cl, sg_lb, sg_pf, sg_pl, sg_nz, sg_nzl, sg_nar0, sg_nar1, lt_T, lt_F, le_T, le_F, eq_T, eq_F, ltL_T, ltL_F, leL_T, leL_F, eqL_T, eqL_F, Llt_T, Llt_F, Lle_T, Lle_F, Leq_T, Leq_F, n10_F, n01_F, le0_F, lt0_T, le0_T, eq0_F, lt1_F, nJ_not_neg, nJ_ne_neg, nJ_neg_lt, nJ_neg_le, nJ_le_neg, ↓reduceIte, ld_ok, st_ok, rf_ok, ld_okL, st_okL, nJ_add, nJ_addL, nJ_Ladd, nJ_mul, nJ_mulL, nJ_Lmul, nJ_subL]; rw [lpM]; simp only [sg_lb]; rw [sg_row_nt (by decide), up_at], ?_, RelC_iff.mpr ⟨(gCT_fr fC (fun j k hx => by unfold xCT at hx; (try unfold pt); (try unfold pb); (try unfold p21); (try unfold scC); (try unfold scM); omega) rfl gC.1), (gCK_fr fC (fun j k hx => by unfold xCK at hx; (try unfold pt); (try unfold pb); (try unfold p21); (try unfold scC); (try unfold scM); omega) rfl gC.2.1), (gCL_fr fC (fun j k hx => by unfold xCL at hx; (try unfold pt); (try unfold pb); (try unfold p21); (try unfold scC); (try unfold scM); omega) rfl okL4 gC.2.2.1), (gCY_fr fC (fun j k hx => by unfold xCY at hx; (try unfold pt); (try unfold pb); (try unfold p21); (try unfold scC); (try unfold scM); omega) rfl okY4 gC.2.2.2.1), ⟨fun _ => s1, s1.2.2.2.2.2.2.2, ?_⟩, ⟨r1, (nx + 40 - 1) % 40, Nat.mod_lt _ (by decide), r2, fun a ha => ?_⟩, (gCI_fr fC (fun j k hx => by unfold xCI at hx; (try unfold pt); (try unfold pb); (try unfold p21); (try unfold scC); (try unfold scM); omega) rfl rfl gC.2.2.2.2.2.2.1), (gCV_fr fC (fun j k hx => by unfold xCV at hx; (try unfold pt); (try unfold pb); (try unfold p21); (try unfold scC); (try unfold scM); omega) rfl gC.2.2.2.2.2.2.2.1), (gCF_fr fC (fun j k hx => by unfold xCF at hx; (try unfold pt); (try unfold pb); (try unfold p21); (try unfold scC); (try unfold scM); omega) rfl gC.2.2.2.2.2.2.2.2.1), (gCR_fr fC (fun j k hx => by unfold xCR at hx; (try unfold pt); (try unfold pb); (try unfold p21); (try unfold scC); (try unfold scM); omega) rfl gC.2.2.2.2.2.2.2.2.2)⟩, RelM_iff.mpr ⟨(gMT_fr fM (fun j k hx => by unfold xMT at hx; (try unfold pt); (try unfold pb); (try unfold p21); (try unfold scC); (try unfold scM); omega) rfl gM.1), (gMK_fr fM (fun j k hx => by unfold xMK at hx; (try unfold pt); (try unfold pb); (try unfold p21); (try unfold scC); (try unfold scM); omega) rfl gM.2.1), (gML_fr fM (fun j k hx => by unfold xML at hx; (try unfold pt); (try unfold pb); (try unfold p21); (try unfold scC); (try unfold scM); omega) rfl gM.2.2.1), (gMY_fr fM (fun j k hx => by unfold xMY at hx; (try unfold pt); (try unfold pb); (try unfold p21); (try unfold scC); (try unfold scM); omega) rfl gM.2.2.2.1), ⟨fun _ => ?_, ?_, ?_⟩, ⟨?_, fun a ha => ?_⟩, (gMI_fr fM (fun j k hx => by unfold xMI at hx; (try unfold pt); (try unfold pb); (try unfold p21); (try unfold scC); (try unfold scM); omega) rfl rfl gM.2.2.2.2.2.2.1), (gMV_fr fM (fun j k hx => by unfold xMV at hx; (try unfold pt); (try unfold pb); (try unfold p21); (try unfold scC); (try unfold scM); omega) rfl gM.2.2.2.2.2.2.2.1), (gMF_fr fM (fun j k hx => by unfold xMF at hx; (try unfold pt); (try unfold pb); (try unfold p21); (try unfold scC); (try unfold scM); omega) rfl gM.2.2.2.2.2.2.2.2.1), (gMR_fr fM (fun j k hx => by unfold xMR at hx; (try unfold pt); (try unfold pb); (try unfold p21); (try unfold scC); (try unfold scM); omega) rfl gM.2.2.2.2.2.2.2.2.2)⟩⟩
    · rw [p1, p3]
      simp (disch := omega) only [sg_cr, sg_cl, sg_lb, sg_pf, sg_pl, sg_nz, sg_nzl, sg_nar0, sg_nar1, lt_T, lt_F, le_T, le_F, eq_T, eq_F, ltL_T, ltL_F, leL_T, leL_F, eqL_T, eqL_F, Llt_T, Llt_F, Lle_T, Lle_F, Leq_T, Leq_F, n10_F, n01_F, le0_F, lt0_T, le0_T, eq0_F, lt1_F, nJ_not_neg, nJ_ne_neg, nJ_neg_lt, nJ_neg_le, nJ_le_neg, ↓reduceIte, ld_ok, st_ok, rf_ok, ld_okL, st_okL, nJ_add, nJ_addL, nJ_Ladd, nJ_mul, nJ_mulL, nJ_Lmul, nJ_subL, nJ_modL, up_nk, up_at, p1]
      rw [if_neg (by decide), e1]
      show some (σ1.1 52 1, σ1) = _
      rw [r1]
    · refine ⟨ok.1, ok.2.1, ok.2.2.1, ok.2.2.2.1, fun h => absurd h h0, fun _ => o.2.1 _ hn1, ⟨by show aN A - 1 ≤ 40; omega, fun a ha => o.2.1 a (by have ha : a < aN A - 1 := ha; omega), fun a ha => ?_, fun a ha => ?_⟩, by show sD (aH A (aN A - 1)) ≤ 999; have := ok.2.2.2.2.2.2.2.1; omega, ok.2.2.2.2.2.2.2.2⟩
      · have ha : a < aN A - 1 := ha
        have e : ∀ q, q ≤ aN A - 1 → aD (uP (uS A (aH A (aN A - 1), aG A)) (aN A - 1, aH A, aO A)) q = aD A q := by
          intro q hq
          show (if q < aN A - 1 then sD (aH A q) else sD (aH A (aN A - 1))) = _
          rw [show aD A q = sD (aH A q) from if_pos (by omega)]
          by_cases c3 : q < aN A - 1
          · rw [if_pos c3]
          · rw [if_neg c3, show q = aN A - 1 by omega]
        rw [e a (by omega), e (a + 1) (by omega)]
        exact o.2.2.1 a (by omega)
      · have ha : a ≤ aN A - 1 := ha
        have e : aD (uP (uS A (aH A (aN A - 1), aG A)) (aN A - 1, aH A, aO A)) a = aD A a := by
          show (if a < aN A - 1 then sD (aH A a) else sD (aH A (aN A - 1))) = _
          rw [show aD A a = sD (aH A a) from if_pos (by omega)]
          by_cases c3 : a < aN A - 1
          · rw [if_pos c3]
          · rw [if_neg c3, show a = aN A - 1 by omega]
        rw [e]
        exact o.2.2.2 a (by omega)
    · show CLg (aG A) (aO A) (sD (aH A (aN A - 1))) (σ1.1 54)
      rw [show σ1.1 54 = σ.1 54 from funext fun k => f2 54 k (by unfold pb; omega)]
      exact CLg_mono gC.2.2.2.2.1.2.2 (Nat.le_refl _) (by omega)
    · have ha : a < aN A - 1 := ha
      show CS (aK A) (aH A a) (62 + 6 * (((nx + 40 - 1) % 40 + 40 - (aN A - 1) + a) % 40)) σ1
      rw [show ((nx + 40 - 1) % 40 + 40 - (aN A - 1) + a) % 40 = (nx + 40 - aN A + a) % 40 by omega]
      refine CS_congr (fun j hj => funext fun k => f2 _ k ?_) (p4 a (by omega))
      have := Nat.mod_lt (nx + 40 - aN A + a) (show 0 < 40 by decide)
      unfold pb; omega
    · show MS (aK A) (aH A (aN A - 1)) _
      rw [sg_row_at]; exact MS_congr ok.2.1 em hm.1
    · show _ = nI (sD (aH A (aN A - 1)))
      rw [sg_row_at, em _ (by decide)]; exact hm.1.2.2.2.2.2.2.2
    · show MLg (aG A) (sD (aH A (aN A - 1))) _
      rw [sg_row_at]; exact MLg_congr em hm.2
    · rw [sg_row_nt (by decide)]; exact up_at
    · have ha : a < aN A - 1 := ha
      rw [sg_row_nt (by decide), up_ne (by decide)]
      exact m2 a (by omega)
theorem lw_O37_ok : lw_O37 Rel := by
  refine rw_eq (fun A σ τ ok C M => ⟨10000, 10000, ?_⟩)
  have okL4 : (aL A).1 ≤ 4 := ok.2.2.1.1
  have okY4 : wN (aY A) ≤ 4 := ok.2.2.2.1.1
  have gC := RelC_iff.mp C
  have gM := RelM_iff.mp M
  have hp : cP (aK A) ≤ 7 := ok.2.1.1
  have eC : CK (aK A) σ := gC.2.1
  have eM : MK (aK A) τ := gM.2.1
  unfold f_X11_image f_X12_image
  by_cases h0 : cP (aK A) = 0
  · rw [isTold_n (by rw [eC.1, h0])]
    exact ⟨-1, σ, τ, A, rfl, if_pos (by rw [eM.1, h0]; rfl), ok, C, M⟩
  · rw [isTold_y eC.1 h0 (by omega)]
    have hS := gC.2.2.2.2.1.1 h0
    have hd : sD (aS A) ≤ 999 := ok.2.2.2.2.2.2.2.1
    have hlo : aO A ≤ sD (aS A) - 60 := by
      have := ok.2.2.2.2.2.2.1.2.2.2 (aN A) (Nat.le_refl _)
      rw [aD_now] at this
      omega
    obtain ⟨σ1, e1, s1, f1⟩ := copyFrom_ok (N := 10000) (o := 55) (q := 37) ok.2.1 (by omega) hS
    have lpM : sg_lp (fun x => f_X12_image_L11 10000 x.2 x.1) 10000 ((τ, 0)) = some (.inr (sg_row τ 34 (va_cpy (τ.1 21) (τ.1 34) 0 0 215))) := by
      have h := lp_for (b := fun x => f_X12_image_L11 10000 x.2 x.1) (fun k => (sg_row τ 34 (va_cpy (τ.1 21) (τ.1 34) 0 0 k), nI k)) 215 (sg_row τ 34 (va_cpy (τ.1 21) (τ.1 34) 0 0 215)) (fun k hk => by
        show f_X12_image_L11 10000 (nI k) _ = _
        unfold f_X12_image_L11
        simp (disch := omega) only [sg_cr, sg_cl, sg_lb, sg_pf, sg_pl, sg_nz, sg_nzl, sg_nar0, sg_nar1, lt_T, lt_F, le_T, le_F, eq_T, eq_F, ltL_T, ltL_F, leL_T, leL_F, eqL_T, eqL_F, Llt_T, Llt_F, Lle_T, Lle_F, Leq_T, Leq_F, n10_F, n01_F, le0_F, lt0_T, le0_T, eq0_F, lt1_F, nJ_not_neg, nJ_ne_neg, nJ_neg_lt, nJ_neg_le, nJ_le_neg, ↓reduceIte, ld_ok, st_ok, rf_ok, ld_okL, st_okL, nJ_add, nJ_addL, nJ_Ladd, nJ_mul, nJ_mulL, nJ_Lmul, sg_row_nt]
        have e := cpy_s (τ := τ) (c := 34) (so := 0) (d := 0) (k := k) (f := τ.1 21) (g := τ.1 34)
        rw [Nat.zero_add] at e
        rw [e]) (by
        show f_X12_image_L11 10000 (nI 215) _ = _
        unfold f_X12_image_L11
        simp (disch := omega) only [sg_cr, sg_cl, sg_lb, sg_pf, sg_pl, sg_nz, sg_nzl, sg_nar0, sg_nar1, lt_T, lt_F, le_T, le_F, eq_T, eq_F, ltL_T, ltL_F, leL_T, leL_F, eqL_T, eqL_F, Llt_T, Llt_F, Lle_T, Lle_F, Leq_T, Leq_F, n10_F, n01_F, le0_F, lt0_T, le0_T, eq0_F, lt1_F, nJ_not_neg, nJ_ne_neg, nJ_neg_lt, nJ_neg_le, nJ_le_neg, ↓reduceIte, ld_ok, st_ok, rf_ok, ld_okL, st_okL, nJ_add, nJ_addL, nJ_Ladd, nJ_mul, nJ_mulL, nJ_Lmul]) 10000 0 (by omega) (by omega)
      rw [cpy_0] at h
      exact h
    have em : ∀ k, k < 215 → va_cpy (τ.1 21) (τ.1 34) 0 0 215 k = τ.1 21 k := fun k hk => by rw [cpy_get, if_pos (by omega), Nat.sub_zero, Nat.zero_add]
    have fM : Fr (fun j k => j = 34 ∨ (j = 0 ∧ k = 57)) τ (sg_up (sg_row τ 34 (va_cpy (τ.1 21) (τ.1 34) 0 0 215)) 0 57 1) := Fr.tr (Fr.row (fun k => Or.inl rfl)) (Fr.up (Or.inr ⟨rfl, rfl⟩))
    have fC : Fr (fun j k => pb 55 61 j k ∨ (j = 52 ∧ k = 6)) σ (sg_up (sg_row σ1 61 (va_cpy (σ1.1 54) (σ1.1 61) 0 0 300)) 52 6 1) := Fr.tr (Fr.tr (f1.mono (fun j k h => Or.inl (by unfold pb at h ⊢; omega))) (Fr.row (fun k => Or.inl (by unfold pb; omega)))) (Fr.up (Or.inr ⟨rfl, rfl⟩))
    have ev1 : f_X6_keepImage 10000 37 σ = some (0, sg_up (sg_row σ1 61 (va_cpy (σ1.1 54) (σ1.1 61) 0 0 300)) 52 6 1) := by
      unfold f_X6_keepImage
      rw [e1]
      simp only [sg_cl]
      rw [show (0 : Int32) = nI 0 from rfl, show (300 : Int32) = nI 300 from rfl, cp_ok (by decide) (by decide) (by decide) (by decide)]
      rfl
    have rr : σ1.1 54 = σ.1 54 := funext fun k => f1 54 k (by unfold pb; omega)
    refine ⟨nI (sD (aS A)), _, _, uI A (1, aS A, aG A), ?_, ?_, ⟨ok.1, ok.2.1, ok.2.2.1, ok.2.2.2.1, fun h => absurd h h0, ok.2.2.2.2.2.1, ok.2.2.2.2.2.2.1, ok.2.2.2.2.2.2.2.1, ⟨Nat.le_refl 1, fun _ => ⟨ok.2.2.2.2.2.1 h0, hd⟩⟩, ok.2.2.2.2.2.2.2.2.2⟩, RelC_iff.mpr ⟨(gCT_fr fC (fun j k hx => by unfold xCT at hx; (try unfold pt); (try unfold pb); (try unfold p21); (try unfold scC); (try unfold scM); omega) rfl gC.1), (gCK_fr fC (fun j k hx => by unfold xCK at hx; (try unfold pt); (try unfold pb); (try unfold p21); (try unfold scC); (try unfold scM); omega) rfl gC.2.1), (gCL_fr fC (fun j k hx => by unfold xCL at hx; (try unfold pt); (try unfold pb); (try unfold p21); (try unfold scC); (try unfold scM); omega) rfl okL4 gC.2.2.1), (gCY_fr fC (fun j k hx => by unfold xCY at hx; (try unfold pt); (try unfold pb); (try unfold p21); (try unfold scC); (try unfold scM); omega) rfl okY4 gC.2.2.2.1), (gCN_fr fC (fun j k hx => by unfold xCN at hx; (try unfold pt); (try unfold pb); (try unfold p21); (try unfold scC); (try unfold scM); omega) rfl rfl rfl rfl gC.2.2.2.2.1), (gCP_fr fC (fun j k hx => by unfold xCP at hx; (try unfold pt); (try unfold pb); (try unfold p21); (try unfold scC); (try unfold scM); omega) rfl rfl rfl gC.2.2.2.2.2.1), ⟨up_at, fun _ => ⟨CS_congr (fun j hj => ?_) s1, ?_⟩⟩, (gCV_fr fC (fun j k hx => by unfold xCV at hx; (try unfold pt); (try unfold pb); (try unfold p21); (try unfold scC); (try unfold scM); omega) rfl gC.2.2.2.2.2.2.2.1), (gCF_fr fC (fun j k hx => by unfold xCF at hx; (try unfold pt); (try unfold pb); (try unfold p21); (try unfold scC); (try unfold scM); omega) rfl gC.2.2.2.2.2.2.2.2.1), (gCR_fr fC (fun j k hx => by unfold xCR at hx; (try unfold pt); (try unfold pb); (try unfold p21); (try unfold scC); (try unfold scM); omega) rfl gC.2.2.2.2.2.2.2.2.2)⟩, RelM_iff.mpr ⟨(gMT_fr fM (fun j k hx => by unfold xMT at hx; (try unfold pt); (try unfold pb); (try unfold p21); (try unfold scC); (try unfold scM); omega) rfl gM.1), (gMK_fr fM (fun j k hx => by unfold xMK at hx; (try unfold pt); (try unfold pb); (try unfold p21); (try unfold scC); (try unfold scM); omega) rfl gM.2.1), (gML_fr fM (fun j k hx => by unfold xML at hx; (try unfold pt); (try unfold pb); (try unfold p21); (try unfold scC); (try unfold scM); omega) rfl gM.2.2.1), (gMY_fr fM (fun j k hx => by unfold xMY at hx; (try unfold pt); (try unfold pb); (try unfold p21); (try unfold scC); (try unfold scM); omega) rfl gM.2.2.2.1), (gMN_fr fM (fun j k hx => by unfold xMN at hx; (try unfold pt); (try unfold pb); (try unfold p21); (try unfold scC); (try unfold scM); omega) rfl rfl rfl gM.2.2.2.2.1), (gMP_fr fM (fun j k hx => by unfold xMP at hx; (try unfold pt); (try unfold pb); (try unfold p21); (try unfold scC); (try unfold scM); omega) rfl rfl rfl rfl gM.2.2.2.2.2.1), ⟨up_at, fun _ => ⟨?_, ?_⟩⟩, (gMV_fr fM (fun j k hx => by unfold xMV at hx; (try unfold pt); (try unfold pb); (try unfold p21); (try unfold scC); (try unfold scM); omega) rfl gM.2.2.2.2.2.2.2.1), (gMF_fr fM (fun j k hx => by unfold xMF at hx; (try unfold pt); (try unfold pb); (try unfold p21); (try unfold scC); (try unfold scM); omega) rfl gM.2.2.2.2.2.2.2.2.1), (gMR_fr fM (fun j k hx => by unfold xMR at hx; (try unfold pt); (try unfold pb); (try unfold p21); (try unfold scC); (try unfold scM); omega) rfl gM.2.2.2.2.2.2.2.2.2)⟩⟩
    · simp only [sg_cr, n10_F, ↓reduceIte]
      rw [ev1]
      simp only [sg_cl]
      rw [up_ne (by decide), sg_row_nt (by decide), f1 37 7 (by unfold pb; omega), gC.2.2.2.2.1.2.1]
    · rw [if_neg (by rw [eM.1]; intro h; rw [nJ_0, nJ_eq (by omega) (by decide)] at h; exact h0 h), lpM]
      simp only [sg_lb, sg_pf]
      rw [ld_okL (by decide) (by decide), up_ne (by decide), sg_row_nt (by decide)]
      rw [show τ.1 21 33 = nI (sD (aS A)) from gM.2.2.2.2.1.2.1]
    · rw [up_ne (by omega), sg_row_nt (by omega)]
    · show CLg (aG A) (sD (aS A) - 60) (sD (aS A)) _
      rw [up_ne (by decide), sg_row_at, rr]
      intro e a b j hj
      rw [cpy_get, if_pos (by omega), Nat.sub_zero, Nat.zero_add]
      exact gC.2.2.2.2.1.2.2 e (by omega) b j hj
    · show MS (aK A) (aS A) _
      rw [up_ne (by decide), sg_row_at]; exact MS_congr ok.2.1 em (gM.2.2.2.2.1.1 h0)
    · show MLg (aG A) (sD (aS A)) _
      rw [up_ne (by decide), sg_row_at]; exact MLg_congr em gM.2.2.2.2.1.2.2
theorem lw_O38_ok : lw_O38 Rel := by
  refine rw_eq (fun A σ τ ok C M => ⟨10000, 10000, ?_⟩)
  have okL4 : (aL A).1 ≤ 4 := ok.2.2.1.1
  have okY4 : wN (aY A) ≤ 4 := ok.2.2.2.1.1
  have gC := RelC_iff.mp C
  have gM := RelM_iff.mp M
  obtain ⟨i1, i2⟩ := (gC.2.2.2.2.2.2.1 : CImg A σ)
  obtain ⟨j1, j2⟩ := (gM.2.2.2.2.2.2.1 : MImg A τ)
  have oi := ok.2.2.2.2.2.2.2.2.1
  unfold f_X11_back f_X6_goBack f_X12_back
  by_cases c : (aI A).1 = 0
  · rw [i1, j1, c]
    exact ⟨-1, σ, τ, A, rfl, rfl, ok, C, M⟩
  · have h0 : cP (aK A) ≠ 0 := fun h => c (ok.2.2.2.2.1 h).2.2.1
    have hi1 : (aI A).1 = 1 := by have := oi.1; omega
    obtain ⟨i3, i4⟩ := i2 c
    obtain ⟨j3, j4⟩ := j2 c
    have oi2 := oi.2 c
    obtain ⟨σ1, e1, s1, f1⟩ := copyFrom_ok (N := 10000) (o := 37) (q := 55) ok.2.1 (by omega) i3
    have r61 : σ1.1 61 = σ.1 61 := funext fun k => f1 61 k (by unfold pb; omega)
    have fC : Fr (fun j k => pb 37 42 j k ∨ j = 54 ∨ (j = 52 ∧ k = 1)) σ (sg_up (sg_row σ1 54 (va_cpy (σ1.1 61) (σ1.1 54) 0 0 300)) 52 1 0) := Fr.tr (Fr.tr (f1.mono (fun j k h => Or.inl h)) (Fr.row (fun k => Or.inr (Or.inl rfl)))) (Fr.up (Or.inr (Or.inr ⟨rfl, rfl⟩)))
    have lpM : sg_lp (fun x => f_X12_back_L11 10000 x.2 x.1) 10000 ((τ, 0)) = some (.inr (sg_row τ 21 (va_cpy (τ.1 34) (τ.1 21) 0 0 215))) :=
      copy21 (N := 10000) (c := 34) (so := 0) (b := fun x => f_X12_back_L11 10000 x.2 x.1) (by decide) (by decide) (fun k hk f => by
        show f_X12_back_L11 10000 (nI k) _ = _
        unfold f_X12_back_L11
        rw [Nat.zero_add]
        simp (disch := omega) only [sg_cr, sg_cl, sg_lb, sg_pf, sg_pl, sg_nz, sg_nzl, sg_nar0, sg_nar1, lt_T, lt_F, le_T, le_F, eq_T, eq_F, ltL_T, ltL_F, leL_T, leL_F, eqL_T, eqL_F, Llt_T, Llt_F, Lle_T, Lle_F, Leq_T, Leq_F, n10_F, n01_F, le0_F, lt0_T, le0_T, eq0_F, lt1_F, nJ_not_neg, nJ_ne_neg, nJ_neg_lt, nJ_neg_le, nJ_le_neg, ↓reduceIte, ld_ok, st_ok, rf_ok, ld_okL, st_okL, nJ_add, nJ_addL, nJ_Ladd, nJ_mul, nJ_mulL, nJ_Lmul, sg_row_nt]) (fun x => by
        show f_X12_back_L11 10000 (nI 215) x = _
        unfold f_X12_back_L11
        simp (disch := omega) only [sg_cr, sg_cl, sg_lb, sg_pf, sg_pl, sg_nz, sg_nzl, sg_nar0, sg_nar1, lt_T, lt_F, le_T, le_F, eq_T, eq_F, ltL_T, ltL_F, leL_T, leL_F, eqL_T, eqL_F, Llt_T, Llt_F, Lle_T, Lle_F, Leq_T, Leq_F, n10_F, n01_F, le0_F, lt0_T, le0_T, eq0_F, lt1_F, nJ_not_neg, nJ_ne_neg, nJ_neg_lt, nJ_neg_le, nJ_le_neg, ↓reduceIte, ld_ok, st_ok, rf_ok, ld_okL, st_okL, nJ_add, nJ_addL, nJ_Ladd, nJ_mul, nJ_mulL, nJ_Lmul])
    have em : ∀ k, k < 215 → va_cpy (τ.1 34) (τ.1 21) 0 0 215 k = τ.1 34 k := fun k hk => by rw [cpy_get, if_pos (by omega), Nat.sub_zero, Nat.zero_add]
    have fM : Fr (fun j k => j = 21 ∨ (j = 0 ∧ k = 42)) τ (sg_up (sg_row τ 21 (va_cpy (τ.1 34) (τ.1 21) 0 0 215)) 0 42 0) := Fr.tr (Fr.row (fun k => Or.inl rfl)) (Fr.up (Or.inr ⟨rfl, rfl⟩))
    refine ⟨nI (sD (aI A).2.1), _, _, uP (uS A ((aI A).2.1, (aI A).2.2)) (0, aH A, sD (aI A).2.1 - 60), ?_, ?_, ⟨ok.1, ok.2.1, ok.2.2.1, ok.2.2.2.1, fun h => absurd h h0, fun _ => oi2.1, ⟨Nat.zero_le _, fun a ha => absurd ha (Nat.not_lt_zero a), fun a ha => absurd ha (Nat.not_lt_zero a), fun a ha => ?_⟩, oi2.2, oi, ok.2.2.2.2.2.2.2.2.2⟩, RelC_iff.mpr ⟨(gCT_fr fC (fun j k hx => by unfold xCT at hx; (try unfold pt); (try unfold pb); (try unfold p21); (try unfold scC); (try unfold scM); omega) rfl gC.1), (gCK_fr fC (fun j k hx => by unfold xCK at hx; (try unfold pt); (try unfold pb); (try unfold p21); (try unfold scC); (try unfold scM); omega) rfl gC.2.1), (gCL_fr fC (fun j k hx => by unfold xCL at hx; (try unfold pt); (try unfold pb); (try unfold p21); (try unfold scC); (try unfold scM); omega) rfl okL4 gC.2.2.1), (gCY_fr fC (fun j k hx => by unfold xCY at hx; (try unfold pt); (try unfold pb); (try unfold p21); (try unfold scC); (try unfold scM); omega) rfl okY4 gC.2.2.2.1), ⟨fun _ => CS_congr (fun j hj => ?_) s1, ?_, ?_⟩, ⟨up_at, ?_⟩, (gCI_fr fC (fun j k hx => by unfold xCI at hx; (try unfold pt); (try unfold pb); (try unfold p21); (try unfold scC); (try unfold scM); omega) rfl rfl gC.2.2.2.2.2.2.1), (gCV_fr fC (fun j k hx => by unfold xCV at hx; (try unfold pt); (try unfold pb); (try unfold p21); (try unfold scC); (try unfold scM); omega) rfl gC.2.2.2.2.2.2.2.1), (gCF_fr fC (fun j k hx => by unfold xCF at hx; (try unfold pt); (try unfold pb); (try unfold p21); (try unfold scC); (try unfold scM); omega) rfl gC.2.2.2.2.2.2.2.2.1), (gCR_fr fC (fun j k hx => by unfold xCR at hx; (try unfold pt); (try unfold pb); (try unfold p21); (try unfold scC); (try unfold scM); omega) rfl gC.2.2.2.2.2.2.2.2.2)⟩, RelM_iff.mpr ⟨(gMT_fr fM (fun j k hx => by unfold xMT at hx; (try unfold pt); (try unfold pb); (try unfold p21); (try unfold scC); (try unfold scM); omega) rfl gM.1), (gMK_fr fM (fun j k hx => by unfold xMK at hx; (try unfold pt); (try unfold pb); (try unfold p21); (try unfold scC); (try unfold scM); omega) rfl gM.2.1), (gML_fr fM (fun j k hx => by unfold xML at hx; (try unfold pt); (try unfold pb); (try unfold p21); (try unfold scC); (try unfold scM); omega) rfl gM.2.2.1), (gMY_fr fM (fun j k hx => by unfold xMY at hx; (try unfold pt); (try unfold pb); (try unfold p21); (try unfold scC); (try unfold scM); omega) rfl gM.2.2.2.1), ⟨fun _ => ?_, ?_, ?_⟩, ⟨up_at, fun a ha => absurd ha (Nat.not_lt_zero a)⟩, (gMI_fr fM (fun j k hx => by unfold xMI at hx; (try unfold pt); (try unfold pb); (try unfold p21); (try unfold scC); (try unfold scM); omega) rfl rfl gM.2.2.2.2.2.2.1), (gMV_fr fM (fun j k hx => by unfold xMV at hx; (try unfold pt); (try unfold pb); (try unfold p21); (try unfold scC); (try unfold scM); omega) rfl gM.2.2.2.2.2.2.2.1), (gMF_fr fM (fun j k hx => by unfold xMF at hx; (try unfold pt); (try unfold pb); (try unfold p21); (try unfold scC); (try unfold scM); omega) rfl gM.2.2.2.2.2.2.2.2.1), (gMR_fr fM (fun j k hx => by unfold xMR at hx; (try unfold pt); (try unfold pb); (try unfold p21); (try unfold scC); (try unfold scM); omega) rfl gM.2.2.2.2.2.2.2.2.2)⟩⟩
    · rw [i1, hi1, if_neg (by decide), e1]
      simp only [sg_cl]
      rw [show (0 : Int32) = nI 0 from rfl, show (300 : Int32) = nI 300 from rfl, cp_ok (by decide) (by decide) (by decide) (by decide)]
      simp only [sg_pf]
      rw [show vp_nar .boolean 1 = 1 from rfl, if_neg (by decide), up_ne (by decide), sg_row_nt (by decide), s1.2.2.2.2.2.2.2]
    · rw [j1, hi1, if_neg (by decide), lpM]
      simp only [sg_lb, sg_pf]
      rw [ld_okL (by decide) (by decide), up_ne (by decide), sg_row_at, em _ (by decide), j3.2.2.2.2.2.2.2]
    · have ha : a ≤ 0 := ha
      show sD (aI A).2.1 - 60 = 0 ∨ sD (aI A).2.1 - 60 + 60 ≤ (if a < 0 then sD (aH A a) else sD (aI A).2.1)
      rw [if_neg (by omega)]
      omega
    · rw [up_ne (by omega), sg_row_nt (by omega)]
    · rw [up_ne (by decide), sg_row_nt (by decide)]; exact s1.2.2.2.2.2.2.2
    · show CLg (aI A).2.2 (sD (aI A).2.1 - 60) (sD (aI A).2.1) _
      rw [up_ne (by decide), sg_row_at, r61]
      intro e a b j hj
      rw [cpy_get, if_pos (by omega), Nat.sub_zero, Nat.zero_add]
      exact i4 e a b j hj
    · obtain ⟨-, nx, p2, p3, -⟩ := (gC.2.2.2.2.2.1 : CPast A σ)
      refine ⟨nx, p2, ?_, fun a ha => absurd ha (Nat.not_lt_zero a)⟩
      rw [up_nk (by decide), sg_row_nt (by decide), f1 52 2 (by unfold pb; omega)]
      exact p3
    · show MS (aK A) (aI A).2.1 _
      rw [up_ne (by decide), sg_row_at]; exact MS_congr ok.2.1 em j3
    · show _ = nI (sD (aI A).2.1)
      rw [up_ne (by decide), sg_row_at, em _ (by decide)]; exact j3.2.2.2.2.2.2.2
    · show MLg (aI A).2.2 (sD (aI A).2.1) _
      rw [up_ne (by decide), sg_row_at]; exact MLg_congr em j4
