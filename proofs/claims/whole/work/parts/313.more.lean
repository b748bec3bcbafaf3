def pt (a b j k : Nat) : Prop := j = a ∧ k = b
theorem Fr_pt {σ : sgS} {i k : Nat} {v : Int32} : Fr (pt i k) σ (sg_up σ i k v) := Fr.up ⟨rfl, rfl⟩
theorem lw_O1_ok : lw_O1 Rel := by
  intro a1
  refine rw_eq (fun A σ τ ok C M => ⟨0, 0, ?_⟩)
  have okL4 : (aL A).1 ≤ 4 := ok.2.2.1.1
  have okY4 : wN (aY A) ≤ 4 := ok.2.2.2.1.1
  have gC := RelC_iff.mp C
  have gM := RelM_iff.mp M
  have h240 := ok.1.1
  unfold f_X11_end f_X12_end
  rw [gC.1.1, gM.1.1]
  rcases nJ_cases a1 with h | ⟨k, hk, rfl⟩
  · simp only [h, sg_cr, sg_cl, sg_lb, sg_pf, sg_pl, sg_nz, sg_nzl, sg_nar0, sg_nar1, ↓reduceIte]
    exact ⟨_, _, _, A, rfl, rfl, ok, C, M⟩
  · by_cases h : k ≤ (aT A).1
    · simp (disch := omega) only [sg_cr, sg_cl, sg_lb, sg_pf, sg_pl, sg_nz, sg_nzl, sg_nar0, sg_nar1, lt_T, lt_F, le_T, le_F, eq_T, eq_F, ltL_T, ltL_F, leL_T, leL_F, eqL_T, eqL_F, Llt_T, Llt_F, Lle_T, Lle_F, Leq_T, Leq_F, n10_F, n01_F, le0_F, lt0_T, le0_T, eq0_F, lt1_F, nJ_not_neg, nJ_ne_neg, nJ_neg_lt, nJ_neg_le, nJ_le_neg, ↓reduceIte, ld_ok, st_ok, rf_ok, ld_okL, st_okL, nJ_add, nJ_addL, nJ_Ladd, nJ_mul, nJ_mulL, nJ_Lmul]
      have fC : Fr (pt 1 1) σ (sg_up σ 1 1 (nI k)) := Fr_pt
      have fM : Fr (pt 0 2) τ (sg_up τ 0 2 (nI k)) := Fr_pt
      refine ⟨_, _, _, uT A (k, (aT A).2), rfl, rfl, ⟨⟨by show k ≤ 240; omega, fun q hq => ok.1.2 q (by have hq : q < k := hq; omega)⟩, ok.2⟩, RelC_iff.mpr ⟨⟨up_at, fun q hq => ?_⟩, (gCK_fr fC (fun j k hx => by unfold xCK at hx; (try unfold pt); (try unfold pb); (try unfold p21); (try unfold scC); (try unfold scM); omega) rfl gC.2.1), (gCL_fr fC (fun j k hx => by unfold xCL at hx; (try unfold pt); (try unfold pb); (try unfold p21); (try unfold scC); (try unfold scM); omega) rfl okL4 gC.2.2.1), (gCY_fr fC (fun j k hx => by unfold xCY at hx; (try unfold pt); (try unfold pb); (try unfold p21); (try unfold scC); (try unfold scM); omega) rfl okY4 gC.2.2.2.1), (gCN_fr fC (fun j k hx => by unfold xCN at hx; (try unfold pt); (try unfold pb); (try unfold p21); (try unfold scC); (try unfold scM); omega) rfl rfl rfl rfl gC.2.2.2.2.1), (gCP_fr fC (fun j k hx => by unfold xCP at hx; (try unfold pt); (try unfold pb); (try unfold p21); (try unfold scC); (try unfold scM); omega) rfl rfl rfl gC.2.2.2.2.2.1), (gCI_fr fC (fun j k hx => by unfold xCI at hx; (try unfold pt); (try unfold pb); (try unfold p21); (try unfold scC); (try unfold scM); omega) rfl rfl gC.2.2.2.2.2.2.1), (gCV_fr fC (fun j k hx => by unfold xCV at hx; (try unfold pt); (try unfold pb); (try unfold p21); (try unfold scC); (try unfold scM); omega) rfl gC.2.2.2.2.2.2.2.1), (gCF_fr fC (fun j k hx => by unfold xCF at hx; (try unfold pt); (try unfold pb); (try unfold p21); (try unfold scC); (try unfold scM); omega) rfl gC.2.2.2.2.2.2.2.2.1), (gCR_fr fC (fun j k hx => by unfold xCR at hx; (try unfold pt); (try unfold pb); (try unfold p21); (try unfold scC); (try unfold scM); omega) rfl gC.2.2.2.2.2.2.2.2.2)⟩, RelM_iff.mpr ⟨⟨up_at, fun q hq => ?_⟩, (gMK_fr fM (fun j k hx => by unfold xMK at hx; (try unfold pt); (try unfold pb); (try unfold p21); (try unfold scC); (try unfold scM); omega) rfl gM.2.1), (gML_fr fM (fun j k hx => by unfold xML at hx; (try unfold pt); (try unfold pb); (try unfold p21); (try unfold scC); (try unfold scM); omega) rfl gM.2.2.1), (gMY_fr fM (fun j k hx => by unfold xMY at hx; (try unfold pt); (try unfold pb); (try unfold p21); (try unfold scC); (try unfold scM); omega) rfl gM.2.2.2.1), (gMN_fr fM (fun j k hx => by unfold xMN at hx; (try unfold pt); (try unfold pb); (try unfold p21); (try unfold scC); (try unfold scM); omega) rfl rfl rfl gM.2.2.2.2.1), (gMP_fr fM (fun j k hx => by unfold xMP at hx; (try unfold pt); (try unfold pb); (try unfold p21); (try unfold scC); (try unfold scM); omega) rfl rfl rfl rfl gM.2.2.2.2.2.1), (gMI_fr fM (fun j k hx => by unfold xMI at hx; (try unfold pt); (try unfold pb); (try unfold p21); (try unfold scC); (try unfold scM); omega) rfl rfl gM.2.2.2.2.2.2.1), (gMV_fr fM (fun j k hx => by unfold xMV at hx; (try unfold pt); (try unfold pb); (try unfold p21); (try unfold scC); (try unfold scM); omega) rfl gM.2.2.2.2.2.2.2.1), (gMF_fr fM (fun j k hx => by unfold xMF at hx; (try unfold pt); (try unfold pb); (try unfold p21); (try unfold scC); (try unfold scM); omega) rfl gM.2.2.2.2.2.2.2.2.1), (gMR_fr fM (fun j k hx => by unfold xMR at hx; (try unfold pt); (try unfold pb); (try unfold p21); (try unfold scC); (try unfold scM); omega) rfl gM.2.2.2.2.2.2.2.2.2)⟩⟩
      · rw [up_ne (by decide)]; exact gC.1.2 q (by have hq : q < k := hq; omega)
      · rw [up_ne (by decide)]; exact gM.1.2 q (by have hq : q < k := hq; omega)
    · simp (disch := omega) only [sg_cr, sg_cl, sg_lb, sg_pf, sg_pl, sg_nz, sg_nzl, sg_nar0, sg_nar1, lt_T, lt_F, le_T, le_F, eq_T, eq_F, ltL_T, ltL_F, leL_T, leL_F, eqL_T, eqL_F, Llt_T, Llt_F, Lle_T, Lle_F, Leq_T, Leq_F, n10_F, n01_F, le0_F, lt0_T, le0_T, eq0_F, lt1_F, nJ_not_neg, nJ_ne_neg, nJ_neg_lt, nJ_neg_le, nJ_le_neg, ↓reduceIte, ld_ok, st_ok, rf_ok, ld_okL, st_okL, nJ_add, nJ_addL, nJ_Ladd, nJ_mul, nJ_mulL, nJ_Lmul]
      exact ⟨_, _, _, A, rfl, rfl, ok, C, M⟩
theorem lw_O15_ok : lw_O15 Rel := by
  intro a1
  refine rw_eq (fun A σ τ ok C M => ⟨0, 0, ?_⟩)
  have okL4 : (aL A).1 ≤ 4 := ok.2.2.1.1
  have okY4 : wN (aY A) ≤ 4 := ok.2.2.2.1.1
  have gC := RelC_iff.mp C
  have gM := RelM_iff.mp M
  have h9 : aF A ≤ 9 := ok.2.2.2.2.2.2.2.2.2.2
  unfold f_X11_flood f_X12_flood
  rw [show σ.1 0 14 = nI (aF A) from gC.2.2.2.2.2.2.2.2.1, show τ.1 0 37 = nI (aF A) from gM.2.2.2.2.2.2.2.2.1, inL (m := 9) (by decide)]
  rcases nJ_rng a1 (9 + 1) (by decide) with ⟨k, hk, rfl⟩ | h
  · rw [in_y hk (by decide)]
    by_cases hf : k = aF A
    · simp (disch := omega) only [sg_cr, sg_cl, sg_lb, sg_pf, sg_pl, sg_nz, sg_nzl, sg_nar0, sg_nar1, lt_T, lt_F, le_T, le_F, eq_T, eq_F, ltL_T, ltL_F, leL_T, leL_F, eqL_T, eqL_F, Llt_T, Llt_F, Lle_T, Lle_F, Leq_T, Leq_F, n10_F, n01_F, le0_F, lt0_T, le0_T, eq0_F, lt1_F, nJ_not_neg, nJ_ne_neg, nJ_neg_lt, nJ_neg_le, nJ_le_neg, ↓reduceIte, ld_ok, st_ok, rf_ok, ld_okL, st_okL, nJ_add, nJ_addL, nJ_Ladd, nJ_mul, nJ_mulL, nJ_Lmul]
      exact ⟨_, _, _, A, rfl, rfl, ok, C, M⟩
    · simp (disch := omega) only [sg_cr, sg_cl, sg_lb, sg_pf, sg_pl, sg_nz, sg_nzl, sg_nar0, sg_nar1, lt_T, lt_F, le_T, le_F, eq_T, eq_F, ltL_T, ltL_F, leL_T, leL_F, eqL_T, eqL_F, Llt_T, Llt_F, Lle_T, Lle_F, Leq_T, Leq_F, n10_F, n01_F, le0_F, lt0_T, le0_T, eq0_F, lt1_F, nJ_not_neg, nJ_ne_neg, nJ_neg_lt, nJ_neg_le, nJ_le_neg, ↓reduceIte, ld_ok, st_ok, rf_ok, ld_okL, st_okL, nJ_add, nJ_addL, nJ_Ladd, nJ_mul, nJ_mulL, nJ_Lmul]
      have fC : Fr (pt 0 14) σ (sg_up σ 0 14 (nI k)) := Fr_pt
      have fM : Fr (pt 0 37) τ (sg_up τ 0 37 (nI k)) := Fr_pt
      exact ⟨_, _, _, uF A k, rfl, rfl, ⟨ok.1, ok.2.1, ok.2.2.1, ok.2.2.2.1, ok.2.2.2.2.1, ok.2.2.2.2.2.1, ok.2.2.2.2.2.2.1, ok.2.2.2.2.2.2.2.1, ok.2.2.2.2.2.2.2.2.1, ok.2.2.2.2.2.2.2.2.2.1, by show k ≤ 9; omega⟩, RelC_iff.mpr ⟨(gCT_fr fC (fun j k hx => by unfold xCT at hx; (try unfold pt); (try unfold pb); (try unfold p21); (try unfold scC); (try unfold scM); omega) rfl gC.1), (gCK_fr fC (fun j k hx => by unfold xCK at hx; (try unfold pt); (try unfold pb); (try unfold p21); (try unfold scC); (try unfold scM); omega) rfl gC.2.1), (gCL_fr fC (fun j k hx => by unfold xCL at hx; (try unfold pt); (try unfold pb); (try unfold p21); (try unfold scC); (try unfold scM); omega) rfl okL4 gC.2.2.1), (gCY_fr fC (fun j k hx => by unfold xCY at hx; (try unfold pt); (try unfold pb); (try unfold p21); (try unfold scC); (try unfold scM); omega) rfl okY4 gC.2.2.2.1), (gCN_fr fC (fun j k hx => by unfold xCN at hx; (try unfold pt); (try unfold pb); (try unfold p21); (try unfold scC); (try unfold scM); omega) rfl rfl rfl rfl gC.2.2.2.2.1), (gCP_fr fC (fun j k hx => by unfold xCP at hx; (try unfold pt); (try unfold pb); (try unfold p21); (try unfold scC); (try unfold scM); omega) rfl rfl rfl gC.2.2.2.2.2.1), (gCI_fr fC (fun j k hx => by unfold xCI at hx; (try unfold pt); (try unfold pb); (try unfold p21); (try unfold scC); (try unfold scM); omega) rfl rfl gC.2.2.2.2.2.2.1), (gCV_fr fC (fun j k hx => by unfold xCV at hx; (try unfold pt); (try unfold pb); (try unfold p21); (try unfold scC); (try unfold scM); omega) rfl gC.2.2.2.2.2.2.2.1), up_at, (gCR_fr fC (fun j k hx => by unfold xCR at hx; (try unfold pt); (try unfold pb); (try unfold p21); (try unfold scC); (try unfold scM); omega) rfl gC.2.2.2.2.2.2.2.2.2)⟩, RelM_iff.mpr ⟨(gMT_fr fM (fun j k hx => by unfold xMT at hx; (try unfold pt); (try unfold pb); (try unfold p21); (try unfold scC); (try unfold scM); omega) rfl gM.1), (gMK_fr fM (fun j k hx => by unfold xMK at hx; (try unfold pt); (try unfold pb); (try unfold p21); (try unfold scC); (try unfold scM); omega) rfl gM.2.1), (gML_fr fM (fun j k hx => by unfold xML at hx; (try unfold pt); (try unfold pb); (try unfold p21); (try unfold scC); (try unfold scM); omega) rfl gM.2.2.1), (gMY_fr fM (fun j k hx => by unfold xMY at hx; (try unfold pt); (try unfold pb); (try unfold p21); (try unfold scC); (try unfold scM); omega) rfl gM.2.2.2.1), (gMN_fr fM (fun j k hx => by unfold xMN at hx; (try unfold pt); (try unfold pb); (try unfold p21); (try unfold scC); (try unfold scM); omega) rfl rfl rfl gM.2.2.2.2.1), (gMP_fr fM (fun j k hx => by unfold xMP at hx; (try unfold pt); (try unfold pb); (try unfold p21); (try unfold scC); (try unfold scM); omega) rfl rfl rfl rfl gM.2.2.2.2.2.1), (gMI_fr fM (fun j k hx => by unfold xMI at hx; (try unfold pt); (try unfold pb); (try unfold p21); (try unfold scC); (try unfold scM); omega) rfl rfl gM.2.2.2.2.2.2.1), (gMV_fr fM (fun j k hx => by unfold xMV at hx; (try unfold pt); (try unfold pb); (try unfold p21); (try unfold scC); (try unfold scM); omega) rfl gM.2.2.2.2.2.2.2.1), up_at, (gMR_fr fM (fun j k hx => by unfold xMR at hx; (try unfold pt); (try unfold pb); (try unfold p21); (try unfold scC); (try unfold scM); omega) rfl gM.2.2.2.2.2.2.2.2.2)⟩⟩
  · rw [in_n h (by decide)]
    refine ⟨0, σ, τ, A, ?_, rfl, ok, C, M⟩
    by_cases h0 : a1 < 0
    · rw [if_pos h0]; rfl
    · rw [if_neg h0, if_pos]
      · rfl
      · have h1 := h.resolve_left h0
        rcases nJ_cases a1 with hx | ⟨q, hq, rfl⟩
        · exact absurd hx h0
        · rw [nJ_le (by decide) hq] at h1
          rw [nJ_Llt hq (by decide)]; omega
theorem lw_O8_ok : lw_O8 Rel := by
  intro a1
  refine rw_eq (fun A σ τ ok C M => ⟨0, 0, ?_⟩)
  have okL4 : (aL A).1 ≤ 4 := ok.2.2.1.1
  have okY4 : wN (aY A) ≤ 4 := ok.2.2.2.1.1
  have gC := RelC_iff.mp C
  have gM := RelM_iff.mp M
  have gl : CLw (aL A) σ := gC.2.2.1
  have ml : MLw (aL A) τ := gM.2.2.1
  unfold f_X11_law f_X12_law
  rw [gl.1, ml.1]
  have key : ∀ h, h ≤ (aL A).1 → ∃ σ' τ' A', sg_up σ 21 5 (wI h) = σ' ∧ sg_up τ 0 36 (wI h) = τ' ∧ okA A' ∧ RelC A' σ' ∧ RelM A' τ' := by
    intro h hh
    have fC : Fr (pt 21 5) σ (sg_up σ 21 5 (wI h)) := Fr_pt
    have fM : Fr (pt 0 36) τ (sg_up τ 0 36 (wI h)) := Fr_pt
    refine ⟨_, _, uL A ((aL A).1, h, (aL A).2.2), rfl, rfl, ⟨ok.1, ok.2.1, ⟨ok.2.2.1.1, hh, ok.2.2.1.2.2⟩, ok.2.2.2⟩, RelC_iff.mpr ⟨(gCT_fr fC (fun j k hx => by unfold xCT at hx; (try unfold pt); (try unfold pb); (try unfold p21); (try unfold scC); (try unfold scM); omega) rfl gC.1), (gCK_fr fC (fun j k hx => by unfold xCK at hx; (try unfold pt); (try unfold pb); (try unfold p21); (try unfold scC); (try unfold scM); omega) rfl gC.2.1), ⟨?_, up_at, fun i hi => ?_⟩, (gCY_fr fC (fun j k hx => by unfold xCY at hx; (try unfold pt); (try unfold pb); (try unfold p21); (try unfold scC); (try unfold scM); omega) rfl okY4 gC.2.2.2.1), (gCN_fr fC (fun j k hx => by unfold xCN at hx; (try unfold pt); (try unfold pb); (try unfold p21); (try unfold scC); (try unfold scM); omega) rfl rfl rfl rfl gC.2.2.2.2.1), (gCP_fr fC (fun j k hx => by unfold xCP at hx; (try unfold pt); (try unfold pb); (try unfold p21); (try unfold scC); (try unfold scM); omega) rfl rfl rfl gC.2.2.2.2.2.1), (gCI_fr fC (fun j k hx => by unfold xCI at hx; (try unfold pt); (try unfold pb); (try unfold p21); (try unfold scC); (try unfold scM); omega) rfl rfl gC.2.2.2.2.2.2.1), (gCV_fr fC (fun j k hx => by unfold xCV at hx; (try unfold pt); (try unfold pb); (try unfold p21); (try unfold scC); (try unfold scM); omega) rfl gC.2.2.2.2.2.2.2.1), (gCF_fr fC (fun j k hx => by unfold xCF at hx; (try unfold pt); (try unfold pb); (try unfold p21); (try unfold scC); (try unfold scM); omega) rfl gC.2.2.2.2.2.2.2.2.1), (gCR_fr fC (fun j k hx => by unfold xCR at hx; (try unfold pt); (try unfold pb); (try unfold p21); (try unfold scC); (try unfold scM); omega) rfl gC.2.2.2.2.2.2.2.2.2)⟩, RelM_iff.mpr ⟨(gMT_fr fM (fun j k hx => by unfold xMT at hx; (try unfold pt); (try unfold pb); (try unfold p21); (try unfold scC); (try unfold scM); omega) rfl gM.1), (gMK_fr fM (fun j k hx => by unfold xMK at hx; (try unfold pt); (try unfold pb); (try unfold p21); (try unfold scC); (try unfold scM); omega) rfl gM.2.1), ⟨?_, up_at, fun i hi => ?_⟩, (gMY_fr fM (fun j k hx => by unfold xMY at hx; (try unfold pt); (try unfold pb); (try unfold p21); (try unfold scC); (try unfold scM); omega) rfl gM.2.2.2.1), (gMN_fr fM (fun j k hx => by unfold xMN at hx; (try unfold pt); (try unfold pb); (try unfold p21); (try unfold scC); (try unfold scM); omega) rfl rfl rfl gM.2.2.2.2.1), (gMP_fr fM (fun j k hx => by unfold xMP at hx; (try unfold pt); (try unfold pb); (try unfold p21); (try unfold scC); (try unfold scM); omega) rfl rfl rfl rfl gM.2.2.2.2.2.1), (gMI_fr fM (fun j k hx => by unfold xMI at hx; (try unfold pt); (try unfold pb); (try unfold p21); (try unfold scC); (try unfold scM); omega) rfl rfl gM.2.2.2.2.2.2.1), (gMV_fr fM (fun j k hx => by unfold xMV at hx; (try unfold pt); (try unfold pb); (try unfold p21); (try unfold scC); (try unfold scM); omega) rfl gM.2.2.2.2.2.2.2.1), (gMF_fr fM (fun j k hx => by unfold xMF at hx; (try unfold pt); (try unfold pb); (try unfold p21); (try unfold scC); (try unfold scM); omega) rfl gM.2.2.2.2.2.2.2.2.1), (gMR_fr fM (fun j k hx => by unfold xMR at hx; (try unfold pt); (try unfold pb); (try unfold p21); (try unfold scC); (try unfold scM); omega) rfl gM.2.2.2.2.2.2.2.2.2)⟩⟩
    · rw [up_nk (by decide)]; exact gl.1
    · have hi : i < (aL A).1 := hi
      rw [up_ne (by decide), up_ne (by omega)]
      exact gl.2.2 i hi
    · rw [up_nk (by decide)]; exact ml.1
    · have hi : i < (aL A).1 := hi
      unfold MLaw
      rw [up_ne (by decide), up_ne (by decide), up_ne (by decide), up_ne (by decide), up_ne (by decide), up_ne (by decide)]
      exact ml.2.2 i hi
  by_cases c : a1 = -1
  · subst c
    obtain ⟨σ', τ', A', e1, e2, k1, k2, k3⟩ := key 0 (Nat.zero_le _)
    rw [in1_1 (by omega), if_neg (by decide), if_pos (by rw [nJ_neg_lt (by omega)]; trivial)]
    exact ⟨_, σ', τ', A', by simp only [sg_cr, sg_cl, sg_lb, sg_pf, sg_pl, sg_nz, sg_nzl, sg_nar0, sg_nar1]; rw [← e1]; rfl, by simp only [sg_cr, sg_cl, sg_lb, sg_pf, sg_pl, sg_nz, sg_nzl, sg_nar0, sg_nar1, n10_F, ↓reduceIte]; rw [← e2]; rfl, k1, k2, k3⟩
  · rcases nJ_rng a1 (aL A).1 (by omega) with ⟨k, hk, rfl⟩ | h
    · obtain ⟨σ', τ', A', e1, e2, k1, k2, k3⟩ := key (k + 1) hk
      rw [in1_y hk (by omega), if_neg (by rw [Int32.lt_iff_toInt_lt, nJ_toInt (by omega), neg1_toInt]; omega), if_pos (by rw [nJ_lt (by omega) (by omega)]; exact hk)]
      rw [wI_s] at e1 e2
      exact ⟨_, σ', τ', A', by simp only [sg_cr, sg_cl, sg_lb, sg_pf, sg_pl, sg_nz, sg_nzl, sg_nar0, sg_nar1]; rw [← e1], by simp only [sg_cr, sg_cl, sg_lb, sg_pf, sg_pl, sg_nz, sg_nzl, sg_nar0, sg_nar1, n10_F, ↓reduceIte]; rw [← e2], k1, k2, k3⟩
    · rw [in1_n (by omega) c h]
      refine ⟨0, σ, τ, A, ?_, rfl, ok, C, M⟩
      by_cases h3 : a1 < -1
      · rw [if_pos h3]; rfl
      · rw [if_neg h3, if_neg]
        · rfl
        · rcases nJ_cases a1 with hx | ⟨q, hq, rfl⟩
          · exfalso
            rw [Int32.lt_iff_toInt_lt, neg1_toInt] at h3
            rw [Int32.lt_iff_toInt_lt, show (0 : Int32).toInt = 0 from by decide] at hx
            exact c (by rw [← Int32.toInt_inj, neg1_toInt]; omega)
          · rcases h with h | h
            · rw [nJ_not_neg hq] at h; exact h.elim
            · rw [nJ_le (by omega) hq] at h
              rw [nJ_lt hq (by omega)]; omega
