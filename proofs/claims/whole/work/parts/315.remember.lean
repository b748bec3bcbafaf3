theorem ring_ne {nx n a : Nat} (h : nx < 40) (hn : n < 40) (ha : a < n) : (nx + 40 - n + a) % 40 ≠ nx := by omega
theorem remember_ok {N : Nat} {A : Abs} {σ : sgS} (ok : okA A) (h0 : cP (aK A) ≠ 0) (C : RelC A σ) : ∃ σ', f_X6_remember N 37 σ = some (0, σ') ∧ RelC (kP A) σ' := by
  have okL4 : (aL A).1 ≤ 4 := ok.2.2.1.1
  have okY4 : wN (aY A) ≤ 4 := ok.2.2.2.1.1
  have gC := RelC_iff.mp C
  have h40 := ok.2.2.2.2.2.2.1.1
  obtain ⟨p1, nx, p2, p3, p4⟩ := (gC.2.2.2.2.2.1 : CPast A σ)
  have hS : CS (aK A) (aS A) 37 σ := gC.2.2.2.2.1.1 h0
  obtain ⟨σ1, e1, s1, f1⟩ := copyFrom_ok (N := N) (o := 62 + 6 * nx) (q := 37) ok.2.1 (by omega) hS
  have q1 : σ1.1 52 1 = nI (aN A) := by rw [f1 52 1 (by unfold pb; omega)]; exact p1
  have q2 : σ1.1 52 2 = nI nx := by rw [f1 52 2 (by unfold pb; omega)]; exact p3
  have ev : f_X6_remember N 37 σ = some (0, sg_up (sg_up σ1 52 2 (nI ((nx + 1) % 40))) 52 1 (nI (kN A))) := by
    unfold f_X6_remember
    rw [p3, rf_ok p2 (by decide), e1]
    simp only [sg_cl, sg_nz, sg_pf]
    rw [if_neg (by decide), q2, nJ_addL, nJ_modL (by omega) (by decide)]
    rw [up_nk (by decide), q1, nJ_addL]
    congr 3
    unfold kN
    by_cases h : aN A + 1 < 40
    · rw [if_pos (by rw [nJ_ltL (by omega) (by decide)]; exact h), Nat.min_eq_right (by omega)]
    · rw [if_neg (by rw [nJ_ltL (by omega) (by decide)]; exact h), Nat.min_eq_left (by omega)]; rfl
  have fC : Fr (fun j k => pb (62 + 6 * nx) (62 + 6 * nx + 5) j k ∨ (j = 52 ∧ (k = 1 ∨ k = 2))) σ (sg_up (sg_up σ1 52 2 (nI ((nx + 1) % 40))) 52 1 (nI (kN A))) := by
    refine (f1.mono (fun j k h => Or.inl h)).tr (Fr.tr (Fr.up (Or.inr ⟨rfl, Or.inr rfl⟩)) (Fr.up (Or.inr ⟨rfl, Or.inl rfl⟩)))
  refine ⟨_, ev, RelC_iff.mpr ⟨(gCT_fr fC (fun j k hx => by unfold xCT at hx; (try unfold pt); (try unfold pb); (try unfold p21); (try unfold scC); (try unfold scM); omega) rfl gC.1), (gCK_fr fC (fun j k hx => by unfold xCK at hx; (try unfold pt); (try unfold pb); (try unfold p21); (try unfold scC); (try unfold scM); omega) rfl gC.2.1), (gCL_fr fC (fun j k hx => by unfold xCL at hx; (try unfold pt); (try unfold pb); (try unfold p21); (try unfold scC); (try unfold scM); omega) rfl okL4 gC.2.2.1), (gCY_fr fC (fun j k hx => by unfold xCY at hx; (try unfold pt); (try unfold pb); (try unfold p21); (try unfold scC); (try unfold scM); omega) rfl okY4 gC.2.2.2.1), (gCN_fr fC (fun j k hx => by unfold xCN at hx; (try unfold pt); (try unfold pb); (try unfold p21); (try unfold scC); (try unfold scM); omega) rfl rfl rfl rfl gC.2.2.2.2.1), ⟨up_at, (nx + 1) % 40, Nat.mod_lt _ (by decide), by rw [up_nk (by decide), up_at], fun a ha => ?_⟩, (gCI_fr fC (fun j k hx => by unfold xCI at hx; (try unfold pt); (try unfold pb); (try unfold p21); (try unfold scC); (try unfold scM); omega) rfl rfl gC.2.2.2.2.2.2.1), (gCV_fr fC (fun j k hx => by unfold xCV at hx; (try unfold pt); (try unfold pb); (try unfold p21); (try unfold scC); (try unfold scM); omega) rfl gC.2.2.2.2.2.2.2.1), (gCF_fr fC (fun j k hx => by unfold xCF at hx; (try unfold pt); (try unfold pb); (try unfold p21); (try unfold scC); (try unfold scM); omega) rfl gC.2.2.2.2.2.2.2.2.1), (gCR_fr fC (fun j k hx => by unfold xCR at hx; (try unfold pt); (try unfold pb); (try unfold p21); (try unfold scC); (try unfold scM); omega) rfl gC.2.2.2.2.2.2.2.2.2)⟩⟩
  have ha : a < kN A := ha
  show CS (aK A) (kH A a) (62 + 6 * (((nx + 1) % 40 + 40 - kN A + a) % 40)) _
  have hk : kN A = min 40 (aN A + 1) := rfl
  have key : ∀ S i, i < 40 → CS (aK A) S (62 + 6 * i) σ1 → CS (aK A) S (62 + 6 * i) (sg_up (sg_up σ1 52 2 (nI ((nx + 1) % 40))) 52 1 (nI (kN A))) := by
    intro S i hi h
    refine CS_congr (fun j hj => ?_) h
    rw [up_ne (by omega), up_ne (by omega)]
  have old : ∀ S i, i < 40 → i ≠ nx → CS (aK A) S (62 + 6 * i) σ → CS (aK A) S (62 + 6 * i) σ1 := by
    intro S i hi hne h
    refine CS_congr (fun j hj => funext fun k => f1 _ k (by unfold pb; omega)) h
  refine key _ _ (Nat.mod_lt _ (by decide)) ?_
  unfold kH
  by_cases c : aN A < 40
  · rw [if_pos c]
    by_cases c2 : a < aN A
    · rw [if_pos c2, show ((nx + 1) % 40 + 40 - kN A + a) % 40 = (nx + 40 - aN A + a) % 40 by omega]
      exact old _ _ (Nat.mod_lt _ (by decide)) (by omega) (p4 a c2)
    · rw [if_neg c2, show ((nx + 1) % 40 + 40 - kN A + a) % 40 = nx by omega]
      exact s1
  · rw [if_neg c]
    by_cases c2 : a < 39
    · rw [if_pos c2, show ((nx + 1) % 40 + 40 - kN A + a) % 40 = (nx + 40 - aN A + (a + 1)) % 40 by omega]
      exact old _ _ (Nat.mod_lt _ (by decide)) (by omega) (p4 (a + 1) (by omega))
    · rw [if_neg c2, show ((nx + 1) % 40 + 40 - kN A + a) % 40 = nx by omega]
      exact s1
/-! the reference keeps -/
def shf (g : Nat → Int32) (m : Nat) : Nat → Int32 := fun q => if q + 215 < m then g (q + 215) else g q
theorem shf_s {τ : sgS} {g : Nat → Int32} {k : Nat} (h : 215 ≤ k) : sg_up (sg_row τ 25 (shf g k)) 25 (k - 215) (g k) = sg_row τ 25 (shf g (k + 1)) := by
  refine Prod.ext (funext fun j => funext fun q => ?_) rfl
  rw [up_get, row_get, row_get]
  unfold shf
  by_cases hj : j = 25
  · by_cases hq : q = k - 215
    · rw [if_pos ⟨hj, hq⟩, if_pos hj, if_pos (by omega), hq, Nat.sub_add_cancel h]
    · rw [if_neg (by rintro ⟨-, h2⟩; exact hq h2), if_pos hj, if_pos hj]
      by_cases h3 : q + 215 < k
      · rw [if_pos h3, if_pos (by omega)]
      · rw [if_neg h3, if_neg (by omega)]
  · rw [if_neg (by rintro ⟨h2, -⟩; exact hj h2), if_neg hj, if_neg hj]
theorem shf_0 {τ : sgS} : sg_row τ 25 (shf (τ.1 25) 215) = τ := by
  refine Prod.ext (funext fun j => funext fun q => ?_) rfl
  rw [row_get]
  unfold shf
  by_cases h : j = 25
  · rw [if_pos h, if_neg (by omega), h]
  · rw [if_neg h]
theorem keep_shift {N : Nat} {τ : sgS} (hN : 10000 ≤ N) : sg_lp (fun x => f_X12_keep_L13 N x.2 x.1) N ((τ, 215)) = some (.inr (sg_row τ 25 (shf (τ.1 25) 8600))) := by
  have h := lp_for (b := fun x => f_X12_keep_L13 N x.2 x.1) (fun k => (sg_row τ 25 (shf (τ.1 25) (215 + k)), nI (215 + k))) 8385 (sg_row τ 25 (shf (τ.1 25) 8600)) (fun k hk => by
    show f_X12_keep_L13 N (nI (215 + k)) (sg_row τ 25 (shf (τ.1 25) (215 + k))) = _
    unfold f_X12_keep_L13
    simp (disch := omega) only [sg_cr, sg_cl, sg_lb, sg_pf, sg_pl, sg_nz, sg_nzl, sg_nar0, sg_nar1, lt_T, lt_F, le_T, le_F, eq_T, eq_F, ltL_T, ltL_F, leL_T, leL_F, eqL_T, eqL_F, Llt_T, Llt_F, Lle_T, Lle_F, Leq_T, Leq_F, n10_F, n01_F, le0_F, lt0_T, le0_T, eq0_F, lt1_F, nJ_not_neg, nJ_ne_neg, nJ_neg_lt, nJ_neg_le, nJ_le_neg, ↓reduceIte, ld_ok, st_ok, rf_ok, ld_okL, st_okL, nJ_add, nJ_addL, nJ_Ladd, nJ_mul, nJ_mulL, nJ_Lmul, nJ_subL]
    rw [sg_row_at, show shf (τ.1 25) (215 + k) (215 + k) = τ.1 25 (215 + k) from if_neg (by omega), shf_s (by omega)]
    rfl) (by
    show f_X12_keep_L13 N (nI 8600) _ = _
    unfold f_X12_keep_L13
    simp (disch := omega) only [sg_cr, sg_cl, sg_lb, sg_pf, sg_pl, sg_nz, sg_nzl, sg_nar0, sg_nar1, lt_T, lt_F, le_T, le_F, eq_T, eq_F, ltL_T, ltL_F, leL_T, leL_F, eqL_T, eqL_F, Llt_T, Llt_F, Lle_T, Lle_F, Leq_T, Leq_F, n10_F, n01_F, le0_F, lt0_T, le0_T, eq0_F, lt1_F, nJ_not_neg, nJ_ne_neg, nJ_neg_lt, nJ_neg_le, nJ_le_neg, ↓reduceIte, ld_ok, st_ok, rf_ok, ld_okL, st_okL, nJ_add, nJ_addL, nJ_Ladd, nJ_mul, nJ_mulL, nJ_Lmul]) N 0 (by omega) (by omega)
  rw [show 215 + 0 = 215 from rfl, shf_0] at h
  exact h
theorem keep_copy {N n : Nat} {τ : sgS} (hN : 10000 ≤ N) (hn : τ.1 0 42 = nI n) (h40 : n < 40) : sg_lp (fun x => f_X12_keep_L54 N x.2 x.1) N ((τ, 0)) = some (.inr (sg_row τ 25 (va_cpy (τ.1 21) (τ.1 25) 0 (215 * n) 215))) := by
  have h := lp_for (b := fun x => f_X12_keep_L54 N x.2 x.1) (fun k => (sg_row τ 25 (va_cpy (τ.1 21) (τ.1 25) 0 (215 * n) k), nI k)) 215 (sg_row τ 25 (va_cpy (τ.1 21) (τ.1 25) 0 (215 * n) 215)) (fun k hk => by
    show f_X12_keep_L54 N (nI k) _ = _
    unfold f_X12_keep_L54
    rw [sg_row_nt (by decide), hn]
    simp (disch := omega) only [sg_cr, sg_cl, sg_lb, sg_pf, sg_pl, sg_nz, sg_nzl, sg_nar0, sg_nar1, lt_T, lt_F, le_T, le_F, eq_T, eq_F, ltL_T, ltL_F, leL_T, leL_F, eqL_T, eqL_F, Llt_T, Llt_F, Lle_T, Lle_F, Leq_T, Leq_F, n10_F, n01_F, le0_F, lt0_T, le0_T, eq0_F, lt1_F, nJ_not_neg, nJ_ne_neg, nJ_neg_lt, nJ_neg_le, nJ_le_neg, ↓reduceIte, ld_ok, st_ok, rf_ok, ld_okL, st_okL, nJ_add, nJ_addL, nJ_Ladd, nJ_mul, nJ_mulL, nJ_Lmul, sg_row_nt]
    have e := cpy_s (τ := τ) (c := 25) (so := 0) (d := 215 * n) (k := k) (f := τ.1 21) (g := τ.1 25)
    rw [Nat.zero_add] at e
    rw [e]) (by
    show f_X12_keep_L54 N (nI 215) _ = _
    unfold f_X12_keep_L54
    simp (disch := omega) only [sg_cr, sg_cl, sg_lb, sg_pf, sg_pl, sg_nz, sg_nzl, sg_nar0, sg_nar1, lt_T, lt_F, le_T, le_F, eq_T, eq_F, ltL_T, ltL_F, leL_T, leL_F, eqL_T, eqL_F, Llt_T, Llt_F, Lle_T, Lle_F, Leq_T, Leq_F, n10_F, n01_F, le0_F, lt0_T, le0_T, eq0_F, lt1_F, nJ_not_neg, nJ_ne_neg, nJ_neg_lt, nJ_neg_le, nJ_le_neg, ↓reduceIte, ld_ok, st_ok, rf_ok, ld_okL, st_okL, nJ_add, nJ_addL, nJ_Ladd, nJ_mul, nJ_mulL, nJ_Lmul]) N 0 (by omega) (by omega)
  rw [cpy_0] at h
  exact h
theorem MS_congr {K : Cty} {S : Sta} {g g' : Nat → Int32} (ok : okK K) (h : ∀ k, k < 215 → g' k = g k) (hs : MS K S g) : MS K S g' := by
  obtain ⟨hp, hr, hs4, -⟩ := ok
  obtain ⟨h1, h2, h3, h4, h5, h6, h7, h8⟩ := hs
  exact ⟨fun w hw => by rw [h _ (by omega)]; exact h1 w hw, fun w hw => by rw [h _ (by omega)]; exact h2 w hw, fun w hw => by rw [h _ (by omega)]; exact h3 w hw, fun w hw => by rw [h _ (by omega)]; exact h4 w hw, fun w hw => by rw [h _ (by omega)]; exact h5 w hw, by rw [h _ (by omega)]; exact h6, by rw [h _ (by omega)]; exact h7, by rw [h _ (by omega)]; exact h8⟩
theorem MLg_congr {L : Nat → Nat → Int32} {d : Nat} {g g' : Nat → Int32} (h : ∀ k, k < 215 → g' k = g k) (hs : MLg L d g) : MLg L d g' := ⟨by rw [h _ (by omega)]; exact hs.1, fun i hi j hj => by rw [h _ (by omega)]; exact hs.2 i hi j hj⟩
theorem keep_ok {N : Nat} {A : Abs} {τ : sgS} (hN : 10000 ≤ N) (ok : okA A) (h0 : cP (aK A) ≠ 0) (M : RelM A τ) : ∃ τ', f_X12_keep N τ = some (0, τ') ∧ RelM (kP A) τ' := by
  have gM := RelM_iff.mp M
  have h40 := ok.2.2.2.2.2.2.1.1
  obtain ⟨p1, p2⟩ := (gM.2.2.2.2.2.1 : MPast A τ)
  obtain ⟨n1, n2, n3⟩ := gM.2.2.2.2.1
  have n1 := n1 h0
  have hk : kN A = min 40 (aN A + 1) := rfl
  -- the last step
  have last : ∀ (τ1 : sgS) (n : Nat), n < 40 → τ1.1 0 42 = nI n → f_X12_keep_B52 N τ1 = some (0, sg_up (sg_row τ1 25 (va_cpy (τ1.1 21) (τ1.1 25) 0 (215 * n) 215)) 0 42 (nI (n + 1))) := by
    intro τ1 n hn e
    unfold f_X12_keep_B52
    rw [keep_copy hN e hn]
    simp only [sg_lb, sg_pf]
    rw [sg_row_nt (by decide), e, nJ_addL]
  by_cases c : aN A < 40
  · have ev : f_X12_keep N τ = some (0, sg_up (sg_row τ 25 (va_cpy (τ.1 21) (τ.1 25) 0 (215 * aN A) 215)) 0 42 (nI (aN A + 1))) := by
      unfold f_X12_keep
      rw [if_neg (by rw [p1, nJ_eqL (by omega) (by decide)]; omega), last τ _ c p1]
    have fM : Fr (fun j k => j = 25 ∨ (j = 0 ∧ k = 42)) τ (sg_up (sg_row τ 25 (va_cpy (τ.1 21) (τ.1 25) 0 (215 * aN A) 215)) 0 42 (nI (aN A + 1))) := Fr.tr (Fr.row (fun k => Or.inl rfl)) (Fr.up (Or.inr ⟨rfl, rfl⟩))
    refine ⟨_, ev, RelM_iff.mpr ⟨(gMT_fr fM (fun j k hx => by unfold xMT at hx; (try unfold pt); (try unfold pb); (try unfold p21); (try unfold scC); (try unfold scM); omega) rfl gM.1), (gMK_fr fM (fun j k hx => by unfold xMK at hx; (try unfold pt); (try unfold pb); (try unfold p21); (try unfold scC); (try unfold scM); omega) rfl gM.2.1), (gML_fr fM (fun j k hx => by unfold xML at hx; (try unfold pt); (try unfold pb); (try unfold p21); (try unfold scC); (try unfold scM); omega) rfl gM.2.2.1), (gMY_fr fM (fun j k hx => by unfold xMY at hx; (try unfold pt); (try unfold pb); (try unfold p21); (try unfold scC); (try unfold scM); omega) rfl gM.2.2.2.1), (gMN_fr fM (fun j k hx => by unfold xMN at hx; (try unfold pt); (try unfold pb); (try unfold p21); (try unfold scC); (try unfold scM); omega) rfl rfl rfl gM.2.2.2.2.1), ⟨?_, fun a ha => ?_⟩, (gMI_fr fM (fun j k hx => by unfold xMI at hx; (try unfold pt); (try unfold pb); (try unfold p21); (try unfold scC); (try unfold scM); omega) rfl rfl gM.2.2.2.2.2.2.1), (gMV_fr fM (fun j k hx => by unfold xMV at hx; (try unfold pt); (try unfold pb); (try unfold p21); (try unfold scC); (try unfold scM); omega) rfl gM.2.2.2.2.2.2.2.1), (gMF_fr fM (fun j k hx => by unfold xMF at hx; (try unfold pt); (try unfold pb); (try unfold p21); (try unfold scC); (try unfold scM); omega) rfl gM.2.2.2.2.2.2.2.2.1), (gMR_fr fM (fun j k hx => by unfold xMR at hx; (try unfold pt); (try unfold pb); (try unfold p21); (try unfold scC); (try unfold scM); omega) rfl gM.2.2.2.2.2.2.2.2.2)⟩⟩
    · rw [up_at]; show _ = nI (kN A); rw [hk, Nat.min_eq_right (by omega)]
    · have ha : a < kN A := ha
      show MS (aK A) (kH A a) _ ∧ MLg (aG A) (sD (kH A a)) _
      rw [up_ne (by decide), sg_row_at]
      unfold kH
      rw [if_pos c]
      by_cases c2 : a < aN A
      · rw [if_pos c2]
        have e : ∀ k, k < 215 → va_cpy (τ.1 21) (τ.1 25) 0 (215 * aN A) 215 (215 * a + k) = τ.1 25 (215 * a + k) := fun k hk => by rw [cpy_get, if_neg (by omega)]
        exact ⟨MS_congr ok.2.1 e (p2 a c2).1, MLg_congr e (p2 a c2).2⟩
      · rw [if_neg c2, show a = aN A by omega]
        have e : ∀ k, k < 215 → va_cpy (τ.1 21) (τ.1 25) 0 (215 * aN A) 215 (215 * aN A + k) = τ.1 21 k := fun k hk => by rw [cpy_get, if_pos (by omega), Nat.zero_add, Nat.add_sub_cancel_left]
        exact ⟨MS_congr ok.2.1 e n1, MLg_congr e n3⟩
  · have e40 : aN A = 40 := by omega
    have ev : f_X12_keep N τ = some (0, sg_up (sg_row (sg_up (sg_row τ 25 (shf (τ.1 25) 8600)) 0 42 (nI 39)) 25 (va_cpy (τ.1 21) (shf (τ.1 25) 8600) 0 (215 * 39) 215)) 0 42 (nI (39 + 1))) := by
      unfold f_X12_keep
      rw [if_pos (by rw [p1, e40]; rfl), keep_shift hN]
      simp only [sg_lb, sg_pf]
      rw [sg_row_nt (by decide), p1, e40, nJ_subL (by decide), last _ 39 (by decide) up_at]
      rw [up_ne (by decide), up_ne (by decide), sg_row_at, sg_row_nt (by decide)]
    have fM : Fr (fun j k => j = 25 ∨ (j = 0 ∧ k = 42)) τ (sg_up (sg_row (sg_up (sg_row τ 25 (shf (τ.1 25) 8600)) 0 42 (nI 39)) 25 (va_cpy (τ.1 21) (shf (τ.1 25) 8600) 0 (215 * 39) 215)) 0 42 (nI (39 + 1))) := Fr.tr (Fr.tr (Fr.tr (Fr.row (fun k => Or.inl rfl)) (Fr.up (Or.inr ⟨rfl, rfl⟩))) (Fr.row (fun k => Or.inl rfl))) (Fr.up (Or.inr ⟨rfl, rfl⟩))
    refine ⟨_, ev, RelM_iff.mpr ⟨(gMT_fr fM (fun j k hx => by unfold xMT at hx; (try unfold pt); (try unfold pb); (try unfold p21); (try unfold scC); (try unfold scM); omega) rfl gM.1), (gMK_fr fM (fun j k hx => by unfold xMK at hx; (try unfold pt); (try unfold pb); (try unfold p21); (try unfold scC); (try unfold scM); omega) rfl gM.2.1), (gML_fr fM (fun j k hx => by unfold xML at hx; (try unfold pt); (try unfold pb); (try unfold p21); (try unfold scC); (try unfold scM); omega) rfl gM.2.2.1), (gMY_fr fM (fun j k hx => by unfold xMY at hx; (try unfold pt); (try unfold pb); (try unfold p21); (try unfold scC); (try unfold scM); omega) rfl gM.2.2.2.1), (gMN_fr fM (fun j k hx => by unfold xMN at hx; (try unfold pt); (try unfold pb); (try unfold p21); (try unfold scC); (try unfold scM); omega) rfl rfl rfl gM.2.2.2.2.1), ⟨?_, fun a ha => ?_⟩, (gMI_fr fM (fun j k hx => by unfold xMI at hx; (try unfold pt); (try unfold pb); (try unfold p21); (try unfold scC); (try unfold scM); omega) rfl rfl gM.2.2.2.2.2.2.1), (gMV_fr fM (fun j k hx => by unfold xMV at hx; (try unfold pt); (try unfold pb); (try unfold p21); (try unfold scC); (try unfold scM); omega) rfl gM.2.2.2.2.2.2.2.1), (gMF_fr fM (fun j k hx => by unfold xMF at hx; (try unfold pt); (try unfold pb); (try unfold p21); (try unfold scC); (try unfold scM); omega) rfl gM.2.2.2.2.2.2.2.2.1), (gMR_fr fM (fun j k hx => by unfold xMR at hx; (try unfold pt); (try unfold pb); (try unfold p21); (try unfold scC); (try unfold scM); omega) rfl gM.2.2.2.2.2.2.2.2.2)⟩⟩
    · rw [up_at]; show _ = nI (kN A); rw [hk, e40]; rfl
    · have ha : a < kN A := ha
      show MS (aK A) (kH A a) _ ∧ MLg (aG A) (sD (kH A a)) _
      rw [up_ne (by decide), sg_row_at]
      unfold kH
      rw [if_neg c]
      by_cases c2 : a < 39
      · rw [if_pos c2]
        have e : ∀ k, k < 215 → va_cpy (τ.1 21) (shf (τ.1 25) 8600) 0 (215 * 39) 215 (215 * a + k) = τ.1 25 (215 * (a + 1) + k) := fun k hk => by
          rw [cpy_get, if_neg (by omega)]
          unfold shf
          rw [if_pos (by omega), show 215 * a + k + 215 = 215 * (a + 1) + k by omega]
        exact ⟨MS_congr ok.2.1 e (p2 (a + 1) (by omega)).1, MLg_congr e (p2 (a + 1) (by omega)).2⟩
      · rw [if_neg c2, show a = 39 by omega]
        have e : ∀ k, k < 215 → va_cpy (τ.1 21) (shf (τ.1 25) 8600) 0 (215 * 39) 215 (215 * 39 + k) = τ.1 21 k := fun k hk => by rw [cpy_get, if_pos (by omega), Nat.zero_add, Nat.add_sub_cancel_left]
        exact ⟨MS_congr ok.2.1 e n1, MLg_congr e n3⟩
