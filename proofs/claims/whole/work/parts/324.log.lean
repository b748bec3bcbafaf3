theorem floorMod_ok {N a : Nat} {σ : sgS} (h : a < 2000) : f_J9_floorMod_7cf53 N (nI a) 100 σ = some (nI (a % 100)) := by
  have hx : a ^^^ 100 < 2 ^ 11 := Nat.xor_lt_two_pow (by omega) (by decide)
  unfold f_J9_floorMod_7cf53
  simp only [sg_nz]
  rw [if_neg (by decide), show (100 : Int32) = nI 100 from rfl, nI_xor, if_pos (by rw [nJ_0, nJ_le (by decide) (by omega)]; omega), nJ_mod (by omega) (by decide)]
theorem rowOf_ok {N a : Nat} {σ : sgS} (h : a < 2000) : f_X6_rowOf N (nI a) σ = some (nI (3 * (a % 100))) := by
  unfold f_X6_rowOf
  rw [floorMod_ok h]
  simp only [sg_cr]
  rw [nJ_mulL, Nat.mul_comm]
theorem logSize_ok {N d : Nat} {σ : sgS} (h : d < 2000) : f_X6_logSize N (nI d) σ = some (nI (min 60 d)) := by
  unfold f_X6_logSize
  by_cases c : d < 60
  · rw [if_pos (by rw [nJ_ltL (by omega) (by decide)]; exact c), Nat.min_eq_right (by omega)]
  · rw [if_neg (by rw [nJ_ltL (by omega) (by decide)]; exact c), Nat.min_eq_left (by omega)]; rfl
theorem lw_O19_ok : lw_O19 Rel := by
  intro a1 a2
  refine ro_eq (fun A σ τ ok C M => ⟨0, 0, ?_⟩)
  have gC := RelC_iff.mp C
  have gM := RelM_iff.mp M
  have hd : sD (aS A) ≤ 999 := ok.2.2.2.2.2.2.2.1
  have lC := gC.2.2.2.2.1.2.2
  have lM := gM.2.2.2.2.1.2.2
  have hlo := ok.2.2.2.2.2.2.1.2.2.2 (aN A) (Nat.le_refl _)
  rw [aD_now] at hlo
  unfold f_X11_log f_X12_log
  rw [show σ.1 37 7 = nI (sD (aS A)) from gC.2.2.2.2.1.2.1, logSize_ok (by omega)]
  simp (disch := omega) only [ld_okL, show τ.1 21 34 = nI (min 60 (sD (aS A))) from lM.1]
  rcases nJ_rng a1 (min 60 (sD (aS A))) (by omega) with ⟨i, hi, rfl⟩ | h
  · rw [in_y hi (by omega), inL (m := 2) (by decide)]
    rcases nJ_rng a2 (2 + 1) (by decide) with ⟨j, hj, rfl⟩ | h
    · rw [in_y hj (by decide)]
      have ec := lC (sD (aS A) - i) (by omega) (by omega) j (by omega)
      have em := lM.2 i hi j (by omega)
      have hm := Nat.mod_lt (sD (aS A) - i) (show 0 < 100 by decide)
      unfold f_X6_noted
      simp (disch := omega) only [sg_cr, sg_cl, sg_lb, sg_pf, sg_pl, sg_nz, sg_nzl, sg_nar0, sg_nar1, lt_T, lt_F, le_T, le_F, eq_T, eq_F, ltL_T, ltL_F, leL_T, leL_F, eqL_T, eqL_F, Llt_T, Llt_F, Lle_T, Lle_F, Leq_T, Leq_F, n10_F, n01_F, le0_F, lt0_T, le0_T, eq0_F, lt1_F, nJ_not_neg, nJ_ne_neg, nJ_neg_lt, nJ_neg_le, nJ_le_neg, ↓reduceIte, ld_ok, st_ok, rf_ok, ld_okL, st_okL, nJ_add, nJ_addL, nJ_Ladd, nJ_mul, nJ_mulL, nJ_Lmul, nJ_sub, nJ_subL, rowOf_ok, ec, em]
      exact ⟨_, rfl, rfl⟩
    · rw [in_n h (by decide)]
      simp (disch := omega) only [sg_cr, sg_cl, sg_lb, sg_pf, sg_pl, sg_nz, sg_nzl, sg_nar0, sg_nar1, lt_T, lt_F, le_T, le_F, eq_T, eq_F, ltL_T, ltL_F, leL_T, leL_F, eqL_T, eqL_F, Llt_T, Llt_F, Lle_T, Lle_F, Leq_T, Leq_F, n10_F, n01_F, le0_F, lt0_T, le0_T, eq0_F, lt1_F, nJ_not_neg, nJ_ne_neg, nJ_neg_lt, nJ_neg_le, nJ_le_neg, ↓reduceIte, ld_ok, st_ok, rf_ok, ld_okL, st_okL, nJ_add, nJ_addL, nJ_Ladd, nJ_mul, nJ_mulL, nJ_Lmul]
      refine ⟨-1, ?_, rfl⟩
      by_cases h1 : a2 < 0
      · rw [if_pos h1]
      · rw [if_neg h1, if_neg]
        rcases nJ_cases a2 with hx | ⟨q, hq, rfl⟩
        · exact absurd hx h1
        · have h2 := h.resolve_left h1
          rw [nJ_le (by decide) hq] at h2
          rw [nJ_leL hq (by decide)]; omega
  · rw [in_n h (by omega)]
    refine ⟨-1, ?_, rfl⟩
    by_cases h1 : a1 < 0
    · rw [if_pos h1]
    · simp only [sg_cr]
      rw [if_neg h1, if_pos (h.resolve_left h1)]
def uV (A : Abs) (x : Nat × (Nat → Nat × Nat × Nat × Nat)) : Abs := (A.1, A.2.1, A.2.2.1, A.2.2.2.1, A.2.2.2.2.1, A.2.2.2.2.2.1, A.2.2.2.2.2.2.1, x, A.2.2.2.2.2.2.2.2)
theorem lw_O26_ok : lw_O26 Rel := by
  intro a1 a2 a3 a4
  refine rw_eq (fun A σ τ ok C M => ⟨0, 0, ?_⟩)
  have okL4 : (aL A).1 ≤ 4 := ok.2.2.1.1
  have okY4 : wN (aY A) ≤ 4 := ok.2.2.2.1.1
  have gC := RelC_iff.mp C
  have gM := RelM_iff.mp M
  have hs4 : cS (aK A) ≤ 4 := ok.2.1.2.2.1
  have hp : cP (aK A) ≤ 7 := ok.2.1.1
  have eC : CK (aK A) σ := gC.2.1
  have eM : MK (aK A) τ := gM.2.1
  obtain ⟨v1, v2⟩ := (gC.2.2.2.2.2.2.2.1 : CSeen A σ)
  obtain ⟨u1, u2⟩ := (gM.2.2.2.2.2.2.2.1 : MSeen A τ)
  have ov := ok.2.2.2.2.2.2.2.2.2.1
  have hv := ov.1
  obtain ⟨b, hb, eb⟩ : ∃ b, b ≤ 1 ∧ (if a4 = 0 then (0 : Int32) else 1) = nI b := by
    by_cases c : a4 = 0
    · exact ⟨0, by decide, by rw [if_pos c]; rfl⟩
    · exact ⟨1, by decide, by rw [if_neg c]; rfl⟩
  have enb : vp_nar .boolean (nI b) = nI b := by
    rcases b with _ | _ | b
    · rfl
    · rfl
    · omega
  show ∃ r σ' τ' A', f_X11_seen 0 a1 a2 a3 (if a4 = 0 then 0 else 1) σ = some (r, σ') ∧ f_X12_seen 0 a1 a2 a3 (if a4 = 0 then 0 else 1) τ = some (r, τ') ∧ _
  rw [eb]
  unfold f_X11_seen f_X12_seen
  rcases nJ_rng a1 (cS (aK A)) (by omega) with ⟨w, hw, rfl⟩ | h
  · rw [hasSet_y eC.2.2.1 hw (by omega), isSet_y eM.2.2.1 hw (by omega)]
    rcases nJ_rng a2 (cP (aK A)) (by omega) with ⟨p, hpp, rfl⟩ | h
    · rw [hasPlace_y eC.1 hpp (by omega), isPlace_y eM.1 hpp (by omega), show (9 : Int32) = nI 9 from rfl]
      rcases rng1 a3 9 (by decide) with ⟨n, hn1, hn2, rfl⟩ | h
      · rw [in_1y hn1 hn2 (by decide)]
        unfold f_X7_keep
        by_cases c : (aV A).1 < 10
        · simp (disch := omega) only [sg_cr, sg_cl, sg_lb, sg_pf, sg_pl, sg_nz, sg_nzl, sg_nar0, sg_nar1, lt_T, lt_F, le_T, le_F, eq_T, eq_F, ltL_T, ltL_F, leL_T, leL_F, eqL_T, eqL_F, Llt_T, Llt_F, Lle_T, Lle_F, Leq_T, Leq_F, n10_F, n01_F, le0_F, lt0_T, le0_T, eq0_F, lt1_F, nJ_not_neg, nJ_ne_neg, nJ_neg_lt, nJ_neg_le, nJ_le_neg, ↓reduceIte, ld_ok, st_ok, rf_ok, ld_okL, st_okL, nJ_add, nJ_addL, nJ_Ladd, nJ_mul, nJ_mulL, nJ_Lmul, v1, u1, up_ne, up_at, enb]
          have fC : Fr (fun j k => (j = 320 ∧ k = 9) ∨ pb 321 324 j k) σ (sg_up (sg_up (sg_up (sg_up (sg_up σ 321 (aV A).1 (nI w)) 322 (aV A).1 (nI p)) 323 (aV A).1 (nI n)) 324 (aV A).1 (nI b)) 320 9 (nI ((aV A).1 + 1))) := Fr.tr (Fr.tr (Fr.tr (Fr.tr (Fr.up (Or.inr (by unfold pb; omega))) (Fr.up (Or.inr (by unfold pb; omega)))) (Fr.up (Or.inr (by unfold pb; omega)))) (Fr.up (Or.inr (by unfold pb; omega)))) (Fr.up (Or.inl ⟨rfl, rfl⟩))
          have fM : Fr (fun j k => (j = 0 ∧ k = 54) ∨ pb 29 32 j k) τ (sg_up (sg_up (sg_up (sg_up (sg_up τ 29 (aV A).1 (nI w)) 30 (aV A).1 (nI p)) 31 (aV A).1 (nI n)) 32 (aV A).1 (nI b)) 0 54 (nI ((aV A).1 + 1))) := Fr.tr (Fr.tr (Fr.tr (Fr.tr (Fr.up (Or.inr (by unfold pb; omega))) (Fr.up (Or.inr (by unfold pb; omega)))) (Fr.up (Or.inr (by unfold pb; omega)))) (Fr.up (Or.inr (by unfold pb; omega)))) (Fr.up (Or.inl ⟨rfl, rfl⟩))
          refine ⟨_, _, _, uV A ((aV A).1 + 1, fun k => if k = (aV A).1 then (w, p, n, b) else (aV A).2 k), rfl, rfl, ⟨ok.1, ok.2.1, ok.2.2.1, ok.2.2.2.1, fun h => by have h : cP (aK A) = 0 := h; omega, ok.2.2.2.2.2.1, ok.2.2.2.2.2.2.1, ok.2.2.2.2.2.2.2.1, ok.2.2.2.2.2.2.2.2.1, ⟨by show (aV A).1 + 1 ≤ 10; omega, fun k hk => ?_⟩, ok.2.2.2.2.2.2.2.2.2.2⟩, RelC_iff.mpr ⟨(gCT_fr fC (fun j k hx => by unfold xCT at hx; (try unfold pt); (try unfold pb); (try unfold p21); (try unfold scC); (try unfold scM); omega) rfl gC.1), (gCK_fr fC (fun j k hx => by unfold xCK at hx; (try unfold pt); (try unfold pb); (try unfold p21); (try unfold scC); (try unfold scM); omega) rfl gC.2.1), (gCL_fr fC (fun j k hx => by unfold xCL at hx; (try unfold pt); (try unfold pb); (try unfold p21); (try unfold scC); (try unfold scM); omega) rfl okL4 gC.2.2.1), (gCY_fr fC (fun j k hx => by unfold xCY at hx; (try unfold pt); (try unfold pb); (try unfold p21); (try unfold scC); (try unfold scM); omega) rfl okY4 gC.2.2.2.1), (gCN_fr fC (fun j k hx => by unfold xCN at hx; (try unfold pt); (try unfold pb); (try unfold p21); (try unfold scC); (try unfold scM); omega) rfl rfl rfl rfl gC.2.2.2.2.1), (gCP_fr fC (fun j k hx => by unfold xCP at hx; (try unfold pt); (try unfold pb); (try unfold p21); (try unfold scC); (try unfold scM); omega) rfl rfl rfl gC.2.2.2.2.2.1), (gCI_fr fC (fun j k hx => by unfold xCI at hx; (try unfold pt); (try unfold pb); (try unfold p21); (try unfold scC); (try unfold scM); omega) rfl rfl gC.2.2.2.2.2.2.1), ⟨up_at, fun k hk => ?_⟩, (gCF_fr fC (fun j k hx => by unfold xCF at hx; (try unfold pt); (try unfold pb); (try unfold p21); (try unfold scC); (try unfold scM); omega) rfl gC.2.2.2.2.2.2.2.2.1), (gCR_fr fC (fun j k hx => by unfold xCR at hx; (try unfold pt); (try unfold pb); (try unfold p21); (try unfold scC); (try unfold scM); omega) rfl gC.2.2.2.2.2.2.2.2.2)⟩, RelM_iff.mpr ⟨(gMT_fr fM (fun j k hx => by unfold xMT at hx; (try unfold pt); (try unfold pb); (try unfold p21); (try unfold scC); (try unfold scM); omega) rfl gM.1), (gMK_fr fM (fun j k hx => by unfold xMK at hx; (try unfold pt); (try unfold pb); (try unfold p21); (try unfold scC); (try unfold scM); omega) rfl gM.2.1), (gML_fr fM (fun j k hx => by unfold xML at hx; (try unfold pt); (try unfold pb); (try unfold p21); (try unfold scC); (try unfold scM); omega) rfl gM.2.2.1), (gMY_fr fM (fun j k hx => by unfold xMY at hx; (try unfold pt); (try unfold pb); (try unfold p21); (try unfold scC); (try unfold scM); omega) rfl gM.2.2.2.1), (gMN_fr fM (fun j k hx => by unfold xMN at hx; (try unfold pt); (try unfold pb); (try unfold p21); (try unfold scC); (try unfold scM); omega) rfl rfl rfl gM.2.2.2.2.1), (gMP_fr fM (fun j k hx => by unfold xMP at hx; (try unfold pt); (try unfold pb); (try unfold p21); (try unfold scC); (try unfold scM); omega) rfl rfl rfl rfl gM.2.2.2.2.2.1), (gMI_fr fM (fun j k hx => by unfold xMI at hx; (try unfold pt); (try unfold pb); (try unfold p21); (try unfold scC); (try unfold scM); omega) rfl rfl gM.2.2.2.2.2.2.1), ⟨up_at, fun k hk => ?_⟩, (gMF_fr fM (fun j k hx => by unfold xMF at hx; (try unfold pt); (try unfold pb); (try unfold p21); (try unfold scC); (try unfold scM); omega) rfl gM.2.2.2.2.2.2.2.2.1), (gMR_fr fM (fun j k hx => by unfold xMR at hx; (try unfold pt); (try unfold pb); (try unfold p21); (try unfold scC); (try unfold scM); omega) rfl gM.2.2.2.2.2.2.2.2.2)⟩⟩
          · have hk : k < (aV A).1 + 1 := hk
            show ((if k = (aV A).1 then (w, p, n, b) else (aV A).2 k)).1 < cS (aK A) ∧ ((if k = (aV A).1 then (w, p, n, b) else (aV A).2 k)).2.1 < cP (aK A) ∧ 1 ≤ ((if k = (aV A).1 then (w, p, n, b) else (aV A).2 k)).2.2.1 ∧ ((if k = (aV A).1 then (w, p, n, b) else (aV A).2 k)).2.2.1 ≤ 9 ∧ ((if k = (aV A).1 then (w, p, n, b) else (aV A).2 k)).2.2.2 ≤ 1
            by_cases ck : k = (aV A).1
            · rw [if_pos ck]; exact ⟨hw, hpp, hn1, hn2, hb⟩
            · rw [if_neg ck]; exact ov.2 k (by omega)
          · have hk : k < (aV A).1 + 1 := hk
            show _ = nI ((if k = (aV A).1 then (w, p, n, b) else (aV A).2 k)).1 ∧ _ = nI ((if k = (aV A).1 then (w, p, n, b) else (aV A).2 k)).2.1 ∧ _ = nI ((if k = (aV A).1 then (w, p, n, b) else (aV A).2 k)).2.2.1 ∧ _ = nI ((if k = (aV A).1 then (w, p, n, b) else (aV A).2 k)).2.2.2
            by_cases ck : k = (aV A).1
            · subst ck
              rw [if_pos rfl]
              simp (disch := omega) only [up_ne, up_at, and_self]
            · rw [if_neg ck]
              simp (disch := omega) only [up_ne, up_nk]
              exact v2 k (by omega)
          · have hk : k < (aV A).1 + 1 := hk
            show _ = nI ((if k = (aV A).1 then (w, p, n, b) else (aV A).2 k)).1 ∧ _ = nI ((if k = (aV A).1 then (w, p, n, b) else (aV A).2 k)).2.1 ∧ _ = nI ((if k = (aV A).1 then (w, p, n, b) else (aV A).2 k)).2.2.1 ∧ _ = nI ((if k = (aV A).1 then (w, p, n, b) else (aV A).2 k)).2.2.2
            by_cases ck : k = (aV A).1
            · subst ck
              rw [if_pos rfl]
              simp (disch := omega) only [up_ne, up_at, and_self]
            · rw [if_neg ck]
              simp (disch := omega) only [up_ne, up_nk]
              exact u2 k (by omega)
        · simp (disch := omega) only [sg_cr, sg_cl, sg_lb, sg_pf, sg_pl, sg_nz, sg_nzl, sg_nar0, sg_nar1, lt_T, lt_F, le_T, le_F, eq_T, eq_F, ltL_T, ltL_F, leL_T, leL_F, eqL_T, eqL_F, Llt_T, Llt_F, Lle_T, Lle_F, Leq_T, Leq_F, n10_F, n01_F, le0_F, lt0_T, le0_T, eq0_F, lt1_F, nJ_not_neg, nJ_ne_neg, nJ_neg_lt, nJ_neg_le, nJ_le_neg, ↓reduceIte, ld_ok, st_ok, rf_ok, ld_okL, st_okL, nJ_add, nJ_addL, nJ_Ladd, nJ_mul, nJ_mulL, nJ_Lmul, v1, u1]
          exact ⟨_, _, _, A, rfl, rfl, ok, C, M⟩
      · rw [in_1n h]
        refine ⟨-1, σ, τ, A, ?_, rfl, ok, C, M⟩
        simp (disch := omega) only [sg_cr, sg_cl, sg_lb, sg_pf, sg_pl, sg_nz, sg_nzl, sg_nar0, sg_nar1, lt_T, lt_F, le_T, le_F, eq_T, eq_F, ltL_T, ltL_F, leL_T, leL_F, eqL_T, eqL_F, Llt_T, Llt_F, Lle_T, Lle_F, Leq_T, Leq_F, n10_F, n01_F, le0_F, lt0_T, le0_T, eq0_F, lt1_F, nJ_not_neg, nJ_ne_neg, nJ_neg_lt, nJ_neg_le, nJ_le_neg, ↓reduceIte, ld_ok, st_ok, rf_ok, ld_okL, st_okL, nJ_add, nJ_addL, nJ_Ladd, nJ_mul, nJ_mulL, nJ_Lmul]
        by_cases h1 : a3 < 1
        · rw [if_pos h1]
        · rw [if_neg h1, if_neg]
          rcases nJ_cases a3 with hx | ⟨q, hq, rfl⟩
          · exfalso
            apply h1
            rw [Int32.lt_iff_toInt_lt, show (0 : Int32).toInt = 0 from by decide] at hx
            rw [Int32.lt_iff_toInt_lt, show (1 : Int32).toInt = 1 from by decide]
            omega
          · have h2 := h.resolve_left h1
            rw [nJ_lt (by decide) hq] at h2
            rw [nJ_le hq (by decide)]; omega
    · rw [hasPlace_n eC.1 h, isPlace_n eM.1 h (by omega)]
      exact ⟨-1, σ, τ, A, rfl, rfl, ok, C, M⟩
  · rw [hasSet_n eC.2.2.1 h, isSet_n eM.2.2.1 h (by omega)]
    exact ⟨-1, σ, τ, A, rfl, rfl, ok, C, M⟩
def sumC (S : Sta) : Nat → Nat
  | 0 => 0
  | n + 1 => sumC S n + sC S n
theorem sumC_le {S : Sta} {p : Nat} (h : ∀ k, k < p → sC S k ≤ 999) : ∀ n, n ≤ p → sumC S n ≤ 999 * n := by
  intro n
  induction n with
  | zero => intro _; exact Nat.le_refl _
  | succ n ih => intro hn; have := ih (by omega); have := h n (by omega); show sumC S n + sC S n ≤ _; omega
theorem lw_O35_ok : lw_O35 Rel := by
  intro a1 a2
  refine ro_eq (fun A σ τ ok C M => ⟨10000, 10000, ?_⟩)
  have gC := RelC_iff.mp C
  have gM := RelM_iff.mp M
  have hp : cP (aK A) ≤ 7 := ok.2.1.1
  have eC : CK (aK A) σ := gC.2.1
  have eM : MK (aK A) τ := gM.2.1
  unfold f_X11_shares f_X12_shares
  rcases nJ_rng a1 (cP (aK A)) (by omega) with ⟨p, hpp, rfl⟩ | h
  · have h0 : cP (aK A) ≠ 0 := by omega
    have eS := gC.2.2.2.2.1.1 h0
    have mS := gM.2.2.2.2.1.1 h0
    have oS := ok.2.2.2.2.2.1 h0
    rw [hasPlace_y eC.1 hpp (by omega), isPlace_y eM.1 hpp (by omega), inL (m := 999) (by decide)]
    rcases nJ_rng a2 (999 + 1) (by decide) with ⟨c, hc, rfl⟩ | h
    · rw [in_y hc (by decide)]
      have l1 : sg_lp (fun x => f_X11_shares_L29 10000 (nI p) (nI c) x.1 x.2 σ) 10000 ((0, 0)) = some (.inr (nI (sumC (aS A) (cP (aK A))))) :=
        lp_for (b := fun x => f_X11_shares_L29 10000 (nI p) (nI c) x.1 x.2 σ) (fun k => (nI (sumC (aS A) k), nI k)) (cP (aK A)) _ (fun k hk => by
          show f_X11_shares_L29 10000 (nI p) (nI c) (nI _) (nI k) σ = _
          unfold f_X11_shares_L29
          rw [eC.1]
          simp (disch := omega) only [sg_cr, sg_cl, sg_lb, sg_pf, sg_pl, sg_nz, sg_nzl, sg_nar0, sg_nar1, lt_T, lt_F, le_T, le_F, eq_T, eq_F, ltL_T, ltL_F, leL_T, leL_F, eqL_T, eqL_F, Llt_T, Llt_F, Lle_T, Lle_F, Leq_T, Leq_F, n10_F, n01_F, le0_F, lt0_T, le0_T, eq0_F, lt1_F, nJ_not_neg, nJ_ne_neg, nJ_neg_lt, nJ_neg_le, nJ_le_neg, ↓reduceIte, ld_ok, st_ok, rf_ok, ld_okL, st_okL, nJ_add, nJ_addL, nJ_Ladd, nJ_mul, nJ_mulL, nJ_Lmul, eS.2.2.2.2.1 k hk]
          rfl) (by
          show f_X11_shares_L29 10000 (nI p) (nI c) (nI _) (nI (cP (aK A))) σ = _
          unfold f_X11_shares_L29
          rw [eC.1]
          simp (disch := omega) only [sg_cr, sg_cl, sg_lb, sg_pf, sg_pl, sg_nz, sg_nzl, sg_nar0, sg_nar1, lt_T, lt_F, le_T, le_F, eq_T, eq_F, ltL_T, ltL_F, leL_T, leL_F, eqL_T, eqL_F, Llt_T, Llt_F, Lle_T, Lle_F, Leq_T, Leq_F, n10_F, n01_F, le0_F, lt0_T, le0_T, eq0_F, lt1_F, nJ_not_neg, nJ_ne_neg, nJ_neg_lt, nJ_neg_le, nJ_le_neg, ↓reduceIte, ld_ok, st_ok, rf_ok, ld_okL, st_okL, nJ_add, nJ_addL, nJ_Ladd, nJ_mul, nJ_mulL, nJ_Lmul]) 10000 0 (by omega) (by omega)
      have l2 : sg_lp (fun x => f_X12_shares_L26 10000 (nI p) (nI c) x.1 x.2 τ) 10000 ((0, 0)) = some (.inr (nI (sumC (aS A) (cP (aK A))))) :=
        lp_for (b := fun x => f_X12_shares_L26 10000 (nI p) (nI c) x.1 x.2 τ) (fun k => (nI (sumC (aS A) k), nI k)) (cP (aK A)) _ (fun k hk => by
          show f_X12_shares_L26 10000 (nI p) (nI c) (nI _) (nI k) τ = _
          unfold f_X12_shares_L26
          rw [eM.1]
          simp (disch := omega) only [sg_cr, sg_cl, sg_lb, sg_pf, sg_pl, sg_nz, sg_nzl, sg_nar0, sg_nar1, lt_T, lt_F, le_T, le_F, eq_T, eq_F, ltL_T, ltL_F, leL_T, leL_F, eqL_T, eqL_F, Llt_T, Llt_F, Lle_T, Lle_F, Leq_T, Leq_F, n10_F, n01_F, le0_F, lt0_T, le0_T, eq0_F, lt1_F, nJ_not_neg, nJ_ne_neg, nJ_neg_lt, nJ_neg_le, nJ_le_neg, ↓reduceIte, ld_ok, st_ok, rf_ok, ld_okL, st_okL, nJ_add, nJ_addL, nJ_Ladd, nJ_mul, nJ_mulL, nJ_Lmul, mS.2.2.2.2.1 k hk]
          rfl) (by
          show f_X12_shares_L26 10000 (nI p) (nI c) (nI _) (nI (cP (aK A))) τ = _
          unfold f_X12_shares_L26
          rw [eM.1]
          simp (disch := omega) only [sg_cr, sg_cl, sg_lb, sg_pf, sg_pl, sg_nz, sg_nzl, sg_nar0, sg_nar1, lt_T, lt_F, le_T, le_F, eq_T, eq_F, ltL_T, ltL_F, leL_T, leL_F, eqL_T, eqL_F, Llt_T, Llt_F, Lle_T, Lle_F, Leq_T, Leq_F, n10_F, n01_F, le0_F, lt0_T, le0_T, eq0_F, lt1_F, nJ_not_neg, nJ_ne_neg, nJ_neg_lt, nJ_neg_le, nJ_le_neg, ↓reduceIte, ld_ok, st_ok, rf_ok, ld_okL, st_okL, nJ_add, nJ_addL, nJ_Ladd, nJ_mul, nJ_mulL, nJ_Lmul]) 10000 0 (by omega) (by omega)
      rw [l1, l2]
      simp (disch := omega) only [sg_cr, sg_cl, sg_lb, sg_pf, sg_pl, sg_nz, sg_nzl, sg_nar0, sg_nar1, lt_T, lt_F, le_T, le_F, eq_T, eq_F, ltL_T, ltL_F, leL_T, leL_F, eqL_T, eqL_F, Llt_T, Llt_F, Lle_T, Lle_F, Leq_T, Leq_F, n10_F, n01_F, le0_F, lt0_T, le0_T, eq0_F, lt1_F, nJ_not_neg, nJ_ne_neg, nJ_neg_lt, nJ_neg_le, nJ_le_neg, ↓reduceIte, ld_ok, st_ok, rf_ok, ld_okL, st_okL, nJ_add, nJ_addL, nJ_Ladd, nJ_mul, nJ_mulL, nJ_Lmul, eS.2.2.2.2.1 p hpp, mS.2.2.2.2.1 p hpp]
      by_cases hz : nI (sumC (aS A) (cP (aK A))) = 0
      · simp only [hz, ↓reduceIte]; exact ⟨_, rfl, rfl⟩
      · simp only [hz, ↓reduceIte]; exact ⟨_, rfl, rfl⟩
    · rw [in_n h (by decide)]
      refine ⟨-1, ?_, rfl⟩
      simp only [sg_cr, n10_F, ↓reduceIte]
      by_cases h1 : a2 < 0
      · rw [if_pos h1]
      · rw [if_neg h1, if_neg]
        rcases nJ_cases a2 with hx | ⟨q, hq, rfl⟩
        · exact absurd hx h1
        · have h2 := h.resolve_left h1
          rw [nJ_le (by decide) hq] at h2
          rw [nJ_leL hq (by decide)]; omega
  · rw [hasPlace_n eC.1 h, isPlace_n eM.1 h (by omega)]
    exact ⟨-1, rfl, rfl⟩
