/-! days that would be -/
theorem lp_go {ρ χ ψ : Type} {b : χ → Option (ρ ⊕ (χ ⊕ ψ))} {n : Nat} (P : Nat → χ → Prop) (hs : ∀ k x, k < n → P k x → ∃ x', b x = some (.inr (.inl x')) ∧ P (k + 1) x') : ∀ (m k N : Nat) (x : χ), k + m = n → m ≤ N → P k x → ∃ x', P n x' ∧ sg_lp b N x = sg_lp b (N - m) x' := by
  intro m
  induction m with
  | zero => intro k N x h1 _ hp; exact ⟨x, by rw [← h1]; exact hp, rfl⟩
  | succ m ih =>
    intro k N x h1 h2 hp
    obtain ⟨N, rfl⟩ : ∃ q, N = q + 1 := ⟨N - 1, by omega⟩
    obtain ⟨x1, e1, p1⟩ := hs k x (by omega) hp
    obtain ⟨x2, p2, e2⟩ := ih (k + 1) N x1 (by omega) (by omega) p1
    exact ⟨x2, p2, by rw [lp_step e1, e2, show N + 1 - (m + 1) = N - m by omega]⟩
def itL (K : Cty) (W : Lws) (Y : Wys) (S : Sta) : Nat → Sta
  | 0 => S
  | n + 1 => dayA K W Y (itL K W Y S n)
theorem itL_ok {K : Cty} {W : Lws} {Y : Wys} {S : Sta} (okk : okK K) (oky : okY Y) (ok : okS K Y S) : ∀ n, okS K Y (itL K W Y S n) ∧ sX (itL K W Y S n) = sX S ∧ sD (itL K W Y S n) = sD S + n := by
  intro n
  induction n with
  | zero => exact ⟨ok, rfl, rfl⟩
  | succ n ih =>
    obtain ⟨i1, i2, i3⟩ := ih
    obtain ⟨j1, j2, j3, -⟩ := dayA_ok (W := W) okk oky i1
    exact ⟨j1, j2.trans i2, by show sD (dayA K W Y (itL K W Y S n)) = _; rw [j3, i3]; omega⟩
def asid (τ : sgS) : sgS := sg_row τ 28 (va_cpy (τ.1 21) (τ.1 28) 0 0 34)
def bck (τ : sgS) : sgS := sg_row τ 21 (va_cpy (τ.1 28) (τ.1 21) 0 0 34)
theorem putAside_ok {N : Nat} {τ : sgS} (hN : 10000 ≤ N) : f_X12_putAside N τ = some (0, asid τ) := by
  have key := lp_for (b := fun x : sgS × Int32 => f_X12_putAside_L2 N x.2 x.1) (fun k => (sg_row τ 28 (va_cpy (τ.1 21) (τ.1 28) 0 0 k), nI k)) 34 (asid τ) (fun k hk => by
    show f_X12_putAside_L2 N (nI k) (sg_row τ 28 (va_cpy (τ.1 21) (τ.1 28) 0 0 k)) = some (.inr (.inl (sg_row τ 28 (va_cpy (τ.1 21) (τ.1 28) 0 0 (k + 1)), nI (k + 1))))
    have e := cpy_s (τ := τ) (c := 28) (so := 0) (d := 0) (k := k) (f := τ.1 21) (g := τ.1 28)
    rw [Nat.zero_add] at e
    have e1 : (sg_row τ 28 (va_cpy (τ.1 21) (τ.1 28) 0 0 k)).1 21 k = τ.1 21 k := by rw [sg_row_nt (by decide)]
    unfold f_X12_putAside_L2
    simp (disch := omega) only [sg_cr, sg_cl, sg_lb, sg_pf, sg_pl, sg_nz, sg_nzl, sg_nar0, sg_nar1, lt_T, lt_F, le_T, le_F, eq_T, eq_F, ltL_T, ltL_F, leL_T, leL_F, eqL_T, eqL_F, Llt_T, Llt_F, Lle_T, Lle_F, Leq_T, Leq_F, n10_F, n01_F, le0_F, lt0_T, le0_T, eq0_F, lt1_F, nJ_not_neg, nJ_ne_neg, nJ_neg_lt, nJ_neg_le, nJ_le_neg, ↓reduceIte, ld_ok, st_ok, rf_ok, ld_okL, st_okL, nJ_add, nJ_addL, nJ_Ladd, nJ_mul, nJ_mulL, nJ_Lmul, e1, e]) (by
    show f_X12_putAside_L2 N (nI 34) _ = _
    unfold f_X12_putAside_L2
    rw [if_pos (by decide)]; rfl) N 0 (by omega) (by omega)
  have key : sg_lp (fun x : sgS × Int32 => f_X12_putAside_L2 N x.2 x.1) N ((sg_row τ 28 (va_cpy (τ.1 21) (τ.1 28) 0 0 0), 0)) = _ := key
  rw [cpy_0] at key
  unfold f_X12_putAside
  rw [key]; rfl
theorem takeBack_ok {N : Nat} {τ : sgS} (hN : 10000 ≤ N) : f_X12_takeBack N τ = some (0, bck τ) := by
  have key := lp_for (b := fun x : sgS × Int32 => f_X12_takeBack_L2 N x.2 x.1) (fun k => (sg_row τ 21 (va_cpy (τ.1 28) (τ.1 21) 0 0 k), nI k)) 34 (bck τ) (fun k hk => by
    show f_X12_takeBack_L2 N (nI k) (sg_row τ 21 (va_cpy (τ.1 28) (τ.1 21) 0 0 k)) = some (.inr (.inl (sg_row τ 21 (va_cpy (τ.1 28) (τ.1 21) 0 0 (k + 1)), nI (k + 1))))
    have e := cpy_s (τ := τ) (c := 21) (so := 0) (d := 0) (k := k) (f := τ.1 28) (g := τ.1 21)
    rw [Nat.zero_add] at e
    have e1 : (sg_row τ 21 (va_cpy (τ.1 28) (τ.1 21) 0 0 k)).1 28 k = τ.1 28 k := by rw [sg_row_nt (by decide)]
    unfold f_X12_takeBack_L2
    simp (disch := omega) only [sg_cr, sg_cl, sg_lb, sg_pf, sg_pl, sg_nz, sg_nzl, sg_nar0, sg_nar1, lt_T, lt_F, le_T, le_F, eq_T, eq_F, ltL_T, ltL_F, leL_T, leL_F, eqL_T, eqL_F, Llt_T, Llt_F, Lle_T, Lle_F, Leq_T, Leq_F, n10_F, n01_F, le0_F, lt0_T, le0_T, eq0_F, lt1_F, nJ_not_neg, nJ_ne_neg, nJ_neg_lt, nJ_neg_le, nJ_le_neg, ↓reduceIte, ld_ok, st_ok, rf_ok, ld_okL, st_okL, nJ_add, nJ_addL, nJ_Ladd, nJ_mul, nJ_mulL, nJ_Lmul, e1, e]) (by
    show f_X12_takeBack_L2 N (nI 34) _ = _
    unfold f_X12_takeBack_L2
    rw [if_pos (by decide)]; rfl) N 0 (by omega) (by omega)
  have key : sg_lp (fun x : sgS × Int32 => f_X12_takeBack_L2 N x.2 x.1) N ((sg_row τ 21 (va_cpy (τ.1 28) (τ.1 21) 0 0 0), 0)) = _ := key
  rw [cpy_0] at key
  unfold f_X12_takeBack
  rw [key]; rfl
theorem asid_21 {τ : sgS} : (asid τ).1 21 = τ.1 21 := sg_row_nt (by decide)
theorem asid_fr {τ : sgS} : Fr scM τ (asid τ) := Fr.row (fun k => by unfold scM; omega)
/-- what was gone through is taken back -/
def pF (j k : Nat) : Prop := (scM j k ∧ j ≠ 28) ∨ (j = 21 ∧ k < 34)
theorem bck_fr {τ τ2 : sgS} (f : Fr pF (asid τ) τ2) : Fr scM τ (bck τ2) := by
  intro j k hj
  show (sg_row τ2 21 (va_cpy (τ2.1 28) (τ2.1 21) 0 0 34)).1 j k = _
  rw [row_get]
  by_cases c : j = 21
  · rw [if_pos c, cpy_get]
    by_cases c2 : k < 34
    · rw [if_pos (by omega), Nat.zero_add, Nat.sub_zero, f 28 k (by unfold pF; omega)]
      show (sg_row τ 28 (va_cpy (τ.1 21) (τ.1 28) 0 0 34)).1 28 k = _
      rw [row_get, if_pos rfl, cpy_get, if_pos (by omega), Nat.zero_add, Nat.sub_zero, c]
    · rw [if_neg (by omega), f 21 k (by unfold pF scM; omega), asid_21, c]
  · rw [if_neg c, f j k (by unfold pF; intro h; exact h.elim (fun h => hj h.1) (fun h => c h.1))]
    show (sg_row τ 28 _).1 j k = _
    rw [row_get, if_neg (by rintro rfl; exact hj (by unfold scM; omega))]
theorem li_pF {j k : Nat} (h : liM j k) : pF j k := by unfold liM mlM meM goM at h; unfold pF scM; omega
theorem kM_pF {A : Abs} {τ τ' : sgS} (gM : gMT A τ ∧ gMK A τ ∧ gML A τ ∧ gMY A τ ∧ gMN A τ ∧ gMP A τ ∧ gMI A τ ∧ gMV A τ ∧ gMF A τ ∧ gMR A τ) (f : Fr pF (asid τ) τ') : MK (aK A) τ' ∧ MLw (aL A) τ' ∧ MY (aY A) τ' := by
  have fM : Fr (fun j k => scM j k ∨ j = 21) τ τ' := (asid_fr.mono (fun j k h => Or.inl h)).tr (f.mono (fun j k h => h.elim (fun h => Or.inl h.1) (fun h => Or.inr h.1)))
  exact ⟨(gMK_fr fM (fun j k hx => by unfold xMK at hx; (try unfold pt); (try unfold pb); (try unfold p21); (try unfold scC); (try unfold scM); omega) rfl gM.2.1), (gML_fr fM (fun j k hx => by unfold xML at hx; (try unfold pt); (try unfold pb); (try unfold p21); (try unfold scC); (try unfold scM); omega) rfl gM.2.2.1), (gMY_fr fM (fun j k hx => by unfold xMY at hx; (try unfold pt); (try unfold pb); (try unfold p21); (try unfold scC); (try unfold scM); omega) rfl gM.2.2.2.1)⟩
theorem kC_sc {A : Abs} {σ σ' : sgS} (ok : okA A) (gC : gCT A σ ∧ gCK A σ ∧ gCL A σ ∧ gCY A σ ∧ gCN A σ ∧ gCP A σ ∧ gCI A σ ∧ gCV A σ ∧ gCF A σ ∧ gCR A σ) (fC : Fr scC σ σ') : CK (aK A) σ' ∧ CLw (aL A) σ' ∧ CY (aY A) σ' := by
  have okL4 : (aL A).1 ≤ 4 := ok.2.2.1.1
  have okY4 : wN (aY A) ≤ 4 := ok.2.2.2.1.1
  exact ⟨(gCK_fr fC (fun j k hx => by unfold xCK at hx; (try unfold pt); (try unfold pb); (try unfold p21); (try unfold scC); (try unfold scM); omega) rfl gC.2.1), (gCL_fr fC (fun j k hx => by unfold xCL at hx; (try unfold pt); (try unfold pb); (try unfold p21); (try unfold scC); (try unfold scM); omega) rfl okL4 gC.2.2.1), (gCY_fr fC (fun j k hx => by unfold xCY at hx; (try unfold pt); (try unfold pb); (try unfold p21); (try unfold scC); (try unfold scM); omega) rfl okY4 gC.2.2.2.1)⟩
theorem da_sc {j k : Nat} (h : daC 43 j k) : scC j k := by unfold daC meC stkC pb at h; unfold scC; omega
/-- a step of each -/
theorem passT_ok {N : Nat} {A : Abs} {S : Sta} {σ s : sgS} (hN : 10000 ≤ N) (ok : okA A) (h0 : cP (aK A) ≠ 0) (C : RelC A σ) (f : Fr scC σ s) (hS : CS (aK A) S 43 s) (oS : okS (aK A) (aY A) S) (hd : sD S < 1999) : ∃ s', f_X1_pass N 43 s = some (nI (dayC (aK A) (aL A) (aY A) S), s') ∧ CS (aK A) (dayA (aK A) (aL A) (aY A) S) 43 s' ∧ Fr scC σ s' ∧ Fr (daC 43) s s' := by
  obtain ⟨k1, k2, k3⟩ := kC_sc ok (RelC_iff.mp C) f
  obtain ⟨s', e, s1, f1⟩ := pass_ok (N := N) (o := 43) hN ok.2.1 ok.2.2.1 ok.2.2.2.1 h0 (Or.inr rfl) k1 k2 k3 hS oS hd
  exact ⟨s', e, s1, f.tr (f1.mono (fun j k h => da_sc h)), f1⟩
theorem liveT_ok {N : Nat} {A : Abs} {S : Sta} {τ s : sgS} (hN : 10000 ≤ N) (ok : okA A) (h0 : cP (aK A) ≠ 0) (M : RelM A τ) (f : Fr pF (asid τ) s) (hS : MS (aK A) S (s.1 21)) (oS : okS (aK A) (aY A) S) (hd : sD S < 1999) : ∃ s', f_X12_live N s = some (0, s') ∧ MS (aK A) (dayA (aK A) (aL A) (aY A) S) (s'.1 21) ∧ Fr pF (asid τ) s' ∧ Fr liM s s' := by
  obtain ⟨k1, k2, k3⟩ := kM_pF (RelM_iff.mp M) f
  obtain ⟨s', e, s1, -, f1⟩ := live_ok (N := N) hN ok.2.1 ok.2.2.1 ok.2.2.2.1 h0 k1 k2 k3 hS oS hd
  exact ⟨s', e, s1, f.tr (f1.mono (fun j k h => li_pF h)), f1⟩
theorem lw_O22_ok : lw_O22 Rel := by
  intro a1 a2
  refine q_eq (fun A σ τ ok C M => ⟨10000, 10000, ?_⟩)
  have gC := RelC_iff.mp C
  have gM := RelM_iff.mp M
  have hs4 := ok.2.1.2.2.1
  have hd9 : sD (aS A) ≤ 999 := ok.2.2.2.2.2.2.2.1
  have eC : CK (aK A) σ := gC.2.1
  have eM : MK (aK A) τ := gM.2.1
  unfold f_X11_where f_X12_where
  rcases nJ_rng a1 (cS (aK A)) (by omega) with ⟨w, hw, rfl⟩ | h
  · have h0 : cP (aK A) ≠ 0 := fun h => by have := (ok.2.1.2.2.2.1 h).2; omega
    have oS := ok.2.2.2.2.2.1 h0
    rw [hasSet_y eC.2.2.1 hw (by omega), isSet_y eM.2.2.1 hw (by omega), inL (m := 60) (by decide)]
    rcases nJ_rng a2 (60 + 1) (by decide) with ⟨n, hn, rfl⟩ | h
    · rw [in_y hn (by decide)]
      simp (disch := omega) only [sg_cr, sg_cl, sg_lb, sg_pf, sg_pl, sg_nz, sg_nzl, sg_nar0, sg_nar1, lt_T, lt_F, le_T, le_F, eq_T, eq_F, ltL_T, ltL_F, leL_T, leL_F, eqL_T, eqL_F, Llt_T, Llt_F, Lle_T, Lle_F, Leq_T, Leq_F, n10_F, n01_F, le0_F, lt0_T, le0_T, eq0_F, lt1_F, nJ_not_neg, nJ_ne_neg, nJ_neg_lt, nJ_neg_le, nJ_le_neg, ↓reduceIte, ld_ok, st_ok, rf_ok, ld_okL, st_okL, nJ_add, nJ_addL, nJ_Ladd, nJ_mul, nJ_mulL, nJ_Lmul]
      obtain ⟨σ1, e1, s1, f1⟩ := copyFrom_ok (N := 10000) (o := 43) (q := 37) ok.2.1 (by omega) (gC.2.2.2.2.1.1 h0)
      obtain ⟨σ2, e2, F2, S2⟩ := lp_st (b := fun x : sgS × Int32 => f_X11_where_L36 10000 (nI w) (nI n) x.2 x.1) (n := n) (fun i s => Fr scC σ s ∧ CS (aK A) (itL (aK A) (aL A) (aY A) (aS A) i) 43 s) (by
        rintro i s hi ⟨g1, g2⟩
        obtain ⟨i1, i2, i3⟩ := itL_ok (W := aL A) ok.2.1 ok.2.2.2.1 oS i
        obtain ⟨s', e, q1, q2, -⟩ := passT_ok (N := 10000) (by decide) ok h0 C g1 g2 i1 (by omega)
        refine ⟨s', ?_, q2, q1⟩
        show f_X11_where_L36 10000 (nI w) (nI n) (nI i) s = _
        unfold f_X11_where_L36
        simp (disch := omega) only [sg_cr, sg_cl, sg_lb, sg_pf, sg_pl, sg_nz, sg_nzl, sg_nar0, sg_nar1, lt_T, lt_F, le_T, le_F, eq_T, eq_F, ltL_T, ltL_F, leL_T, leL_F, eqL_T, eqL_F, Llt_T, Llt_F, Lle_T, Lle_F, Leq_T, Leq_F, n10_F, n01_F, le0_F, lt0_T, le0_T, eq0_F, lt1_F, nJ_not_neg, nJ_ne_neg, nJ_neg_lt, nJ_neg_le, nJ_le_neg, ↓reduceIte, ld_ok, st_ok, rf_ok, ld_okL, st_okL, nJ_add, nJ_addL, nJ_Ladd, nJ_mul, nJ_mulL, nJ_Lmul, e]) (by
        intro s _
        show f_X11_where_L36 10000 (nI w) (nI n) (nI n) s = _
        unfold f_X11_where_L36
        simp (disch := omega) only [sg_cr, sg_cl, sg_lb, sg_pf, sg_pl, sg_nz, sg_nzl, sg_nar0, sg_nar1, lt_T, lt_F, le_T, le_F, eq_T, eq_F, ltL_T, ltL_F, leL_T, leL_F, eqL_T, eqL_F, Llt_T, Llt_F, Lle_T, Lle_F, Leq_T, Leq_F, n10_F, n01_F, le0_F, lt0_T, le0_T, eq0_F, lt1_F, nJ_not_neg, nJ_ne_neg, nJ_neg_lt, nJ_neg_le, nJ_le_neg, ↓reduceIte, ld_ok, st_ok, rf_ok, ld_okL, st_okL, nJ_add, nJ_addL, nJ_Ladd, nJ_mul, nJ_mulL, nJ_Lmul]) 10000 0 σ1 (by omega) (by omega) ⟨f1.mono (fun j k h => by unfold pb at h; unfold scC; omega), s1⟩
      obtain ⟨τ2, e3, F3, S3⟩ := lp_st (b := fun x : sgS × Int32 => f_X12_where_L26 10000 (nI w) (nI n) x.2 x.1) (n := n) (fun i s => Fr pF (asid τ) s ∧ MS (aK A) (itL (aK A) (aL A) (aY A) (aS A) i) (s.1 21)) (by
        rintro i s hi ⟨g1, g2⟩
        obtain ⟨i1, i2, i3⟩ := itL_ok (W := aL A) ok.2.1 ok.2.2.2.1 oS i
        obtain ⟨s', e, q1, q2, -⟩ := liveT_ok (N := 10000) (by decide) ok h0 M g1 g2 i1 (by omega)
        refine ⟨s', ?_, q2, q1⟩
        show f_X12_where_L26 10000 (nI w) (nI n) (nI i) s = _
        unfold f_X12_where_L26
        simp (disch := omega) only [sg_cr, sg_cl, sg_lb, sg_pf, sg_pl, sg_nz, sg_nzl, sg_nar0, sg_nar1, lt_T, lt_F, le_T, le_F, eq_T, eq_F, ltL_T, ltL_F, leL_T, leL_F, eqL_T, eqL_F, Llt_T, Llt_F, Lle_T, Lle_F, Leq_T, Leq_F, n10_F, n01_F, le0_F, lt0_T, le0_T, eq0_F, lt1_F, nJ_not_neg, nJ_ne_neg, nJ_neg_lt, nJ_neg_le, nJ_le_neg, ↓reduceIte, ld_ok, st_ok, rf_ok, ld_okL, st_okL, nJ_add, nJ_addL, nJ_Ladd, nJ_mul, nJ_mulL, nJ_Lmul, e]) (by
        intro s _
        show f_X12_where_L26 10000 (nI w) (nI n) (nI n) s = _
        unfold f_X12_where_L26
        simp (disch := omega) only [sg_cr, sg_cl, sg_lb, sg_pf, sg_pl, sg_nz, sg_nzl, sg_nar0, sg_nar1, lt_T, lt_F, le_T, le_F, eq_T, eq_F, ltL_T, ltL_F, leL_T, leL_F, eqL_T, eqL_F, Llt_T, Llt_F, Lle_T, Lle_F, Leq_T, Leq_F, n10_F, n01_F, le0_F, lt0_T, le0_T, eq0_F, lt1_F, nJ_not_neg, nJ_ne_neg, nJ_neg_lt, nJ_neg_le, nJ_le_neg, ↓reduceIte, ld_ok, st_ok, rf_ok, ld_okL, st_okL, nJ_add, nJ_addL, nJ_Ladd, nJ_mul, nJ_mulL, nJ_Lmul]) 10000 0 (asid τ) (by omega) (by omega) ⟨Fr.rf, by rw [asid_21]; exact gM.2.2.2.2.1.1 h0⟩
      refine ⟨nI (sP (itL (aK A) (aL A) (aY A) (aS A) n) w), σ2, bck τ2, ?_, ?_, F2, bck_fr F3⟩
      · rw [e1]
        simp only [sg_cl]
        have e2 : sg_lp (fun x : sgS × Int32 => f_X11_where_L36 10000 (nI w) (nI n) x.2 x.1) 10000 ((σ1, 0)) = _ := e2
        rw [e2]
        simp only [sg_lb]
        rw [S2.1 w hw]
      · rw [putAside_ok (by decide)]
        simp only [sg_cl]
        have e3 : sg_lp (fun x : sgS × Int32 => f_X12_where_L26 10000 (nI w) (nI n) x.2 x.1) 10000 ((asid τ, 0)) = _ := e3
        rw [e3]
        simp only [sg_lb]
        rw [takeBack_ok (by decide)]
        show some (τ2.1 21 (0 + w), bck τ2) = _
        rw [Nat.zero_add, S3.1 w hw]
    · rw [in_n h (by decide)]
      by_cases h1 : a2 < 0
      · simp only [h1, sg_cr, sg_cl, sg_lb, sg_pf, sg_pl, sg_nz, sg_nzl, sg_nar0, sg_nar1, lt_T, lt_F, le_T, le_F, eq_T, eq_F, ltL_T, ltL_F, leL_T, leL_F, eqL_T, eqL_F, Llt_T, Llt_F, Lle_T, Lle_F, Leq_T, Leq_F, n10_F, n01_F, le0_F, lt0_T, le0_T, eq0_F, lt1_F, nJ_not_neg, nJ_ne_neg, nJ_neg_lt, nJ_neg_le, nJ_le_neg, ↓reduceIte, ld_ok, st_ok, rf_ok, ld_okL, st_okL, nJ_add, nJ_addL, nJ_Ladd, nJ_mul, nJ_mulL, nJ_Lmul]
        exact ⟨_, _, _, rfl, rfl, Fr.rf, Fr.rf⟩
      · have h2 : ¬ a2 ≤ 60 := by
          rcases nJ_cases a2 with hx | ⟨q, hq, rfl⟩
          · exact absurd hx h1
          · have := h.resolve_left h1
            rw [nJ_le (by decide) hq] at this
            rw [nJ_leL hq (by decide)]; omega
        simp only [h1, h2, sg_cr, sg_cl, sg_lb, sg_pf, sg_pl, sg_nz, sg_nzl, sg_nar0, sg_nar1, lt_T, lt_F, le_T, le_F, eq_T, eq_F, ltL_T, ltL_F, leL_T, leL_F, eqL_T, eqL_F, Llt_T, Llt_F, Lle_T, Lle_F, Leq_T, Leq_F, n10_F, n01_F, le0_F, lt0_T, le0_T, eq0_F, lt1_F, nJ_not_neg, nJ_ne_neg, nJ_neg_lt, nJ_neg_le, nJ_le_neg, ↓reduceIte, ld_ok, st_ok, rf_ok, ld_okL, st_okL, nJ_add, nJ_addL, nJ_Ladd, nJ_mul, nJ_mulL, nJ_Lmul]
        exact ⟨_, _, _, rfl, rfl, Fr.rf, Fr.rf⟩
  · rw [hasSet_n eC.2.2.1 h, isSet_n eM.2.2.1 h (by omega)]
    exact ⟨_, _, _, rfl, rfl, Fr.rf, Fr.rf⟩
/-- the first of some for which it is so -/
theorem first_of (p : Nat → Prop) (hp : ∀ n, p n ∨ ¬ p n) : ∀ n, (∃ m, m ≤ n ∧ p m ∧ ∀ i, i < m → ¬ p i) ∨ ∀ i, i ≤ n → ¬ p i := by
  intro n
  induction n with
  | zero =>
    rcases hp 0 with h | h
    · exact Or.inl ⟨0, Nat.le_refl _, h, fun i hi => absurd hi (Nat.not_lt_zero i)⟩
    · exact Or.inr (fun i hi => by rw [show i = 0 by omega]; exact h)
  | succ n ih =>
    rcases ih with ⟨m, h1, h2, h3⟩ | h1
    · exact Or.inl ⟨m, by omega, h2, h3⟩
    · rcases hp (n + 1) with h | h
      · exact Or.inl ⟨n + 1, Nat.le_refl _, h, fun i hi => h1 i (by omega)⟩
      · exact Or.inr (fun i hi => by
          by_cases c : i = n + 1
          · rw [c]; exact h
          · exact h1 i (by omega))
theorem lw_O23_ok : lw_O23 Rel := by
  intro a1
  refine q_eq (fun A σ τ ok C M => ⟨10000, 10000, ?_⟩)
  have gC := RelC_iff.mp C
  have gM := RelM_iff.mp M
  have hs4 := ok.2.1.2.2.1
  have hwn := ok.2.2.2.1.1
  have hd9 : sD (aS A) ≤ 999 := ok.2.2.2.2.2.2.2.1
  have eC : CK (aK A) σ := gC.2.1
  have eM : MK (aK A) τ := gM.2.1
  unfold f_X11_done f_X12_done
  rcases nJ_rng a1 (cS (aK A)) (by omega) with ⟨w, hw, rfl⟩ | h
  · have h0 : cP (aK A) ≠ 0 := fun h => by have := (ok.2.1.2.2.2.1 h).2; omega
    have oS := ok.2.2.2.2.2.1 h0
    rw [hasSet_y eC.2.2.1 hw (by omega), isSet_y eM.2.2.1 hw (by omega)]
    simp only [sg_cr]
    rw [if_neg (by decide), if_neg (by decide)]
    obtain ⟨σ1, e1, s1, f1⟩ := copyFrom_ok (N := 10000) (o := 43) (q := 37) ok.2.1 (by omega) (gC.2.2.2.2.1.1 h0)
    rw [e1, putAside_ok (by decide)]
    simp only [sg_cl]
    have hit := itL_ok (W := aL A) ok.2.1 ok.2.2.2.1 oS
    -- up to a day m before which it has a way
    have runC : ∀ m, m ≤ 61 → (∀ i, i < m → sW (itL (aK A) (aL A) (aY A) (aS A) i) w ≠ 0) → ∃ σ2, Fr scC σ σ2 ∧ CS (aK A) (itL (aK A) (aL A) (aY A) (aS A) m) 43 σ2 ∧ sg_lp (fun x : sgS × Int32 => f_X11_done_L26 10000 (nI w) x.2 x.1) 10000 ((σ1, 0)) = sg_lp (fun x : sgS × Int32 => f_X11_done_L26 10000 (nI w) x.2 x.1) (10000 - m) ((σ2, nI m)) := by
      intro m hm hne
      obtain ⟨⟨σ2, x2⟩, ⟨p1, p2, p3⟩, e⟩ := lp_go (b := fun x : sgS × Int32 => f_X11_done_L26 10000 (nI w) x.2 x.1) (n := m) (fun i x => x.2 = nI i ∧ Fr scC σ x.1 ∧ CS (aK A) (itL (aK A) (aL A) (aY A) (aS A) i) 43 x.1) (by
        rintro i ⟨s, x⟩ hi ⟨g0, g1, g2⟩
        have g0 : x = nI i := g0
        subst g0
        obtain ⟨i1, i2, i3⟩ := hit i
        obtain ⟨s', e, q1, q2, -⟩ := passT_ok (N := 10000) (by decide) ok h0 C g1 g2 i1 (by omega)
        refine ⟨(s', nI (i + 1)), ?_, rfl, q2, q1⟩
        show f_X11_done_L26 10000 (nI w) (nI i) s = _
        unfold f_X11_done_L26
        have ne := hne i hi
        have lw := (i1.1 w hw).2.1
        have ew : s.1 (43 + 2) w = nI (sW (itL (aK A) (aL A) (aY A) (aS A) i) w - 1) := by
          have := g2.2.1 w (by omega)
          rw [show sW (itL (aK A) (aL A) (aY A) (aS A) i) w = (sW (itL (aK A) (aL A) (aY A) (aS A) i) w - 1) + 1 by omega, wI_s] at this
          exact this
        simp (disch := omega) only [sg_cr, sg_cl, sg_lb, sg_pf, sg_pl, sg_nz, sg_nzl, sg_nar0, sg_nar1, lt_T, lt_F, le_T, le_F, eq_T, eq_F, ltL_T, ltL_F, leL_T, leL_F, eqL_T, eqL_F, Llt_T, Llt_F, Lle_T, Lle_F, Leq_T, Leq_F, n10_F, n01_F, le0_F, lt0_T, le0_T, eq0_F, lt1_F, nJ_not_neg, nJ_ne_neg, nJ_neg_lt, nJ_neg_le, nJ_le_neg, ↓reduceIte, ld_ok, st_ok, rf_ok, ld_okL, st_okL, nJ_add, nJ_addL, nJ_Ladd, nJ_mul, nJ_mulL, nJ_Lmul, ew, e]) m 0 10000 ((σ1, 0)) (by omega) (by omega) ⟨rfl, f1.mono (fun j k h => by unfold pb at h; unfold scC; omega), s1⟩
      have p1 : x2 = nI m := p1
      subst p1
      exact ⟨σ2, p2, p3, e⟩
    have runM : ∀ m, m ≤ 60 → (∀ i, i < m → sW (itL (aK A) (aL A) (aY A) (aS A) i) w ≠ 0) → ∃ τ2, Fr pF (asid τ) τ2 ∧ MS (aK A) (itL (aK A) (aL A) (aY A) (aS A) m) (τ2.1 21) ∧ sg_lp (fun x : sgS × Int32 => f_X12_done_L16 10000 (nI w) x.2 x.1) 10000 ((asid τ, 0)) = sg_lp (fun x : sgS × Int32 => f_X12_done_L16 10000 (nI w) x.2 x.1) (10000 - m) ((τ2, nI m)) := by
      intro m hm hne
      obtain ⟨⟨τ2, x2⟩, ⟨p1, p2, p3⟩, e⟩ := lp_go (b := fun x : sgS × Int32 => f_X12_done_L16 10000 (nI w) x.2 x.1) (n := m) (fun i x => x.2 = nI i ∧ Fr pF (asid τ) x.1 ∧ MS (aK A) (itL (aK A) (aL A) (aY A) (aS A) i) (x.1.1 21)) (by
        rintro i ⟨s, x⟩ hi ⟨g0, g1, g2⟩
        have g0 : x = nI i := g0
        subst g0
        obtain ⟨i1, i2, i3⟩ := hit i
        obtain ⟨s', e, q1, q2, -⟩ := liveT_ok (N := 10000) (by decide) ok h0 M g1 g2 i1 (by omega)
        refine ⟨(s', nI (i + 1)), ?_, rfl, q2, q1⟩
        show f_X12_done_L16 10000 (nI w) (nI i) s = _
        unfold f_X12_done_L16
        have ne := hne i hi
        have lw := (i1.1 w hw).2.1
        have ew : s.1 21 (4 + w) = nI (sW (itL (aK A) (aL A) (aY A) (aS A) i) w - 1) := by
          have := g2.2.1 w hw
          rw [show sW (itL (aK A) (aL A) (aY A) (aS A) i) w = (sW (itL (aK A) (aL A) (aY A) (aS A) i) w - 1) + 1 by omega, wI_s] at this
          exact this
        simp (disch := omega) only [sg_cr, sg_cl, sg_lb, sg_pf, sg_pl, sg_nz, sg_nzl, sg_nar0, sg_nar1, lt_T, lt_F, le_T, le_F, eq_T, eq_F, ltL_T, ltL_F, leL_T, leL_F, eqL_T, eqL_F, Llt_T, Llt_F, Lle_T, Lle_F, Leq_T, Leq_F, n10_F, n01_F, le0_F, lt0_T, le0_T, eq0_F, lt1_F, nJ_not_neg, nJ_ne_neg, nJ_neg_lt, nJ_neg_le, nJ_le_neg, ↓reduceIte, ld_ok, st_ok, rf_ok, ld_okL, st_okL, nJ_add, nJ_addL, nJ_Ladd, nJ_mul, nJ_mulL, nJ_Lmul, ew, e]) m 0 10000 ((asid τ, 0)) (by omega) (by omega) ⟨rfl, Fr.rf, by show MS _ _ ((asid τ).1 21); rw [asid_21]; exact gM.2.2.2.2.1.1 h0⟩
      have p1 : x2 = nI m := p1
      subst p1
      exact ⟨τ2, p2, p3, e⟩
    rcases first_of (fun i => sW (itL (aK A) (aL A) (aY A) (aS A) i) w = 0) (fun i => Decidable.em _) 60 with ⟨m, hm, hz, hne⟩ | hne
    · obtain ⟨σ2, F2, S2, e2⟩ := runC m (by omega) hne
      obtain ⟨τ2, F3, S3, e3⟩ := runM m (by omega) hne
      refine ⟨nI m, σ2, bck τ2, ?_, ?_, F2, bck_fr F3⟩
      · rw [e2, show 10000 - m = (10000 - m - 1) + 1 by omega]
        rw [lp_ret (r := (nI m, σ2))]
        · rfl
        · show f_X11_done_L26 10000 (nI w) (nI m) σ2 = _
          unfold f_X11_done_L26
          simp (disch := omega) only [sg_cr, sg_cl, sg_lb, sg_pf, sg_pl, sg_nz, sg_nzl, sg_nar0, sg_nar1, lt_T, lt_F, le_T, le_F, eq_T, eq_F, ltL_T, ltL_F, leL_T, leL_F, eqL_T, eqL_F, Llt_T, Llt_F, Lle_T, Lle_F, Leq_T, Leq_F, n10_F, n01_F, le0_F, lt0_T, le0_T, eq0_F, lt1_F, nJ_not_neg, nJ_ne_neg, nJ_neg_lt, nJ_neg_le, nJ_le_neg, ↓reduceIte, ld_ok, st_ok, rf_ok, ld_okL, st_okL, nJ_add, nJ_addL, nJ_Ladd, nJ_mul, nJ_mulL, nJ_Lmul, S2.2.1 w (by omega), hz, wI_0]
      · have ew : τ2.1 21 (4 + w) = -1 := by rw [S3.2.1 w hw, hz, wI_0]
        rw [e3, show 10000 - m = (10000 - m - 1) + 1 by omega, lp_out (y := (τ2, nI m))]
        · simp only [sg_lb]
          rw [nJ_Ladd, ld_ok (by omega) (by decide), ew, if_pos rfl]
          unfold f_X12_done_B61
          rw [takeBack_ok (by decide)]
          simp only [sg_cl]
          rw [if_neg (by decide)]
        · show f_X12_done_L16 10000 (nI w) (nI m) τ2 = _
          unfold f_X12_done_L16
          by_cases c60 : m = 60
          · rw [if_pos (by rw [c60]; decide)]
          · simp (disch := omega) only [sg_cr, sg_cl, sg_lb, sg_pf, sg_pl, sg_nz, sg_nzl, sg_nar0, sg_nar1, lt_T, lt_F, le_T, le_F, eq_T, eq_F, ltL_T, ltL_F, leL_T, leL_F, eqL_T, eqL_F, Llt_T, Llt_F, Lle_T, Lle_F, Leq_T, Leq_F, n10_F, n01_F, le0_F, lt0_T, le0_T, eq0_F, lt1_F, nJ_not_neg, nJ_ne_neg, nJ_neg_lt, nJ_neg_le, nJ_le_neg, ↓reduceIte, ld_ok, st_ok, rf_ok, ld_okL, st_okL, nJ_add, nJ_addL, nJ_Ladd, nJ_mul, nJ_mulL, nJ_Lmul, ew]
    · obtain ⟨σ2, F2, S2, e2⟩ := runC 61 (by omega) (fun i hi => hne i (by omega))
      obtain ⟨τ2, F3, S3, e3⟩ := runM 60 (by omega) (fun i hi => hne i (by omega))
      refine ⟨-1, σ2, bck τ2, ?_, ?_, F2, bck_fr F3⟩
      · rw [e2, show 10000 - 61 = 9938 + 1 by omega, lp_out (y := σ2)]
        · rfl
        · show f_X11_done_L26 10000 (nI w) (nI 61) σ2 = _
          unfold f_X11_done_L26
          rw [if_pos (by decide)]
      · have ne := hne 60 (Nat.le_refl _)
        have lw := ((hit 60).1.1 w hw).2.1
        have ew : τ2.1 21 (4 + w) = nI (sW (itL (aK A) (aL A) (aY A) (aS A) 60) w - 1) := by
          have := S3.2.1 w hw
          rw [show sW (itL (aK A) (aL A) (aY A) (aS A) 60) w = (sW (itL (aK A) (aL A) (aY A) (aS A) 60) w - 1) + 1 by omega, wI_s] at this
          exact this
        rw [e3, show 10000 - 60 = 9939 + 1 by omega, lp_out (y := (τ2, nI 60))]
        · simp only [sg_lb]
          rw [nJ_Ladd, ld_ok (by omega) (by decide), ew, if_neg (by rw [nJ_ne_neg (by omega)]; exact id)]
          unfold f_X12_done_B61
          rw [takeBack_ok (by decide)]
          simp only [sg_cl, ↓reduceIte]
        · show f_X12_done_L16 10000 (nI w) (nI 60) τ2 = _
          unfold f_X12_done_L16
          rw [if_pos (by decide)]
  · rw [hasSet_n eC.2.2.1 h, isSet_n eM.2.2.1 h (by omega)]
    exact ⟨_, _, _, rfl, rfl, Fr.rf, Fr.rf⟩
theorem lw_O5_ok : lw_O5 Rel := by
  intro a1 a2
  refine q_eq (fun A σ τ ok C M => ⟨10000, 10000, ?_⟩)
  have gC := RelC_iff.mp C
  have gM := RelM_iff.mp M
  have hr12 := ok.2.1.2.1
  have hp7 := ok.2.1.1
  have hd9 : sD (aS A) ≤ 999 := ok.2.2.2.2.2.2.2.1
  have eC : CK (aK A) σ := gC.2.1
  have eM : MK (aK A) τ := gM.2.1
  unfold f_X11_road f_X12_road
  rcases nJ_rng a1 (cR (aK A)) (by omega) with ⟨r, hr, rfl⟩ | h
  · have h0 : cP (aK A) ≠ 0 := fun h => by have := (ok.2.1.2.2.2.1 h).1; omega
    have oS := ok.2.2.2.2.2.1 h0
    have eS := gC.2.2.2.2.1.1 h0
    have mS := gM.2.2.2.2.1.1 h0
    have hc := ok.2.1.2.2.2.2.2.2.1 r hr
    obtain ⟨a1, b1, c1, d1⟩ := eC.2.2.2.2.2.1 r hr
    obtain ⟨a2', b2, c2, d2⟩ := eM.2.2.2.2.2.1 r hr
    rw [hasRoad_y eC.2.1 hr (by omega), isRoad_y eM.2.1 hr (by omega), inL (m := 6) (by decide)]
    have o0 : f_X12_of 10000 (nI r) (nI 0) τ = some (nI (cA (aK A) r)) := of_ok (k := 0) (by omega) a2'
    have o1 : f_X12_of 10000 (nI r) (nI 1) τ = some (nI (cB (aK A) r)) := of_ok (k := 1) (by omega) b2
    have o2 : f_X12_of 10000 (nI r) (nI 2) τ = some (nI (cL (aK A) r)) := of_ok (k := 2) (by omega) c2
    have o3 : f_X12_of 10000 (nI r) (nI 3) τ = some (nI (cD (aK A) r)) := of_ok (k := 3) (by omega) d2
    rcases nJ_rng a2 (6 + 1) (by decide) with ⟨n, hn, rfl⟩ | h
    · rw [in_y hn (by decide)]
      have key : n = 0 ∨ n = 1 ∨ n = 2 ∨ n = 3 ∨ n = 4 ∨ n = 5 ∨ n = 6 := by omega
      rcases key with rfl | rfl | rfl | rfl | rfl | rfl | rfl
      · simp (disch := omega) only [sg_cr, sg_cl, sg_lb, sg_pf, sg_pl, sg_nz, sg_nzl, sg_nar0, sg_nar1, lt_T, lt_F, le_T, le_F, eq_T, eq_F, ltL_T, ltL_F, leL_T, leL_F, eqL_T, eqL_F, Llt_T, Llt_F, Lle_T, Lle_F, Leq_T, Leq_F, n10_F, n01_F, le0_F, lt0_T, le0_T, eq0_F, lt1_F, nJ_not_neg, nJ_ne_neg, nJ_neg_lt, nJ_neg_le, nJ_le_neg, ↓reduceIte, ld_ok, st_ok, rf_ok, ld_okL, st_okL, nJ_add, nJ_addL, nJ_Ladd, nJ_mul, nJ_mulL, nJ_Lmul, a1, o0]
        exact ⟨_, _, _, rfl, rfl, Fr.rf, Fr.rf⟩
      · simp (disch := omega) only [sg_cr, sg_cl, sg_lb, sg_pf, sg_pl, sg_nz, sg_nzl, sg_nar0, sg_nar1, lt_T, lt_F, le_T, le_F, eq_T, eq_F, ltL_T, ltL_F, leL_T, leL_F, eqL_T, eqL_F, Llt_T, Llt_F, Lle_T, Lle_F, Leq_T, Leq_F, n10_F, n01_F, le0_F, lt0_T, le0_T, eq0_F, lt1_F, nJ_not_neg, nJ_ne_neg, nJ_neg_lt, nJ_neg_le, nJ_le_neg, ↓reduceIte, ld_ok, st_ok, rf_ok, ld_okL, st_okL, nJ_add, nJ_addL, nJ_Ladd, nJ_mul, nJ_mulL, nJ_Lmul, b1, o1]
        exact ⟨_, _, _, rfl, rfl, Fr.rf, Fr.rf⟩
      · simp (disch := omega) only [sg_cr, sg_cl, sg_lb, sg_pf, sg_pl, sg_nz, sg_nzl, sg_nar0, sg_nar1, lt_T, lt_F, le_T, le_F, eq_T, eq_F, ltL_T, ltL_F, leL_T, leL_F, eqL_T, eqL_F, Llt_T, Llt_F, Lle_T, Lle_F, Leq_T, Leq_F, n10_F, n01_F, le0_F, lt0_T, le0_T, eq0_F, lt1_F, nJ_not_neg, nJ_ne_neg, nJ_neg_lt, nJ_neg_le, nJ_le_neg, ↓reduceIte, ld_ok, st_ok, rf_ok, ld_okL, st_okL, nJ_add, nJ_addL, nJ_Ladd, nJ_mul, nJ_mulL, nJ_Lmul, c1, o2]
        exact ⟨_, _, _, rfl, rfl, Fr.rf, Fr.rf⟩
      · simp (disch := omega) only [sg_cr, sg_cl, sg_lb, sg_pf, sg_pl, sg_nz, sg_nzl, sg_nar0, sg_nar1, lt_T, lt_F, le_T, le_F, eq_T, eq_F, ltL_T, ltL_F, leL_T, leL_F, eqL_T, eqL_F, Llt_T, Llt_F, Lle_T, Lle_F, Leq_T, Leq_F, n10_F, n01_F, le0_F, lt0_T, le0_T, eq0_F, lt1_F, nJ_not_neg, nJ_ne_neg, nJ_neg_lt, nJ_neg_le, nJ_le_neg, ↓reduceIte, ld_ok, st_ok, rf_ok, ld_okL, st_okL, nJ_add, nJ_addL, nJ_Ladd, nJ_mul, nJ_mulL, nJ_Lmul, d1, o3]
        exact ⟨_, _, _, rfl, rfl, Fr.rf, Fr.rf⟩
      · obtain ⟨σ1, e1, h1, f1⟩ := measure_ok (N := 10000) (o := 37) (by decide) ok.2.1 ok.2.2.1 (okG_of ok.2.1 oS (by omega)) (Or.inl rfl) eC gC.2.2.1 eS
        obtain ⟨τ1, e2, f2⟩ := longBy_ok (N := 10000) (by decide) ok.2.1 ok.2.2.1 (okG_of ok.2.1 oS (by omega)) eM gM.2.2.1 mS hr
        simp (disch := omega) only [sg_cr, sg_cl, sg_lb, sg_pf, sg_pl, sg_nz, sg_nzl, sg_nar0, sg_nar1, lt_T, lt_F, le_T, le_F, eq_T, eq_F, ltL_T, ltL_F, leL_T, leL_F, eqL_T, eqL_F, Llt_T, Llt_F, Lle_T, Lle_F, Leq_T, Leq_F, n10_F, n01_F, le0_F, lt0_T, le0_T, eq0_F, lt1_F, nJ_not_neg, nJ_ne_neg, nJ_neg_lt, nJ_neg_le, nJ_le_neg, ↓reduceIte, ld_ok, st_ok, rf_ok, ld_okL, st_okL, nJ_add, nJ_addL, nJ_Ladd, nJ_mul, nJ_mulL, nJ_Lmul, e1, e2, h1 r hr]
        exact ⟨_, _, _, rfl, rfl, f1.mono (fun j k h => by unfold meC stkC at h; unfold scC; omega), f2.mono (fun j k h => by unfold meM at h; unfold scM; omega)⟩
      · simp (disch := omega) only [sg_cr, sg_cl, sg_lb, sg_pf, sg_pl, sg_nz, sg_nzl, sg_nar0, sg_nar1, lt_T, lt_F, le_T, le_F, eq_T, eq_F, ltL_T, ltL_F, leL_T, leL_F, eqL_T, eqL_F, Llt_T, Llt_F, Lle_T, Lle_F, Leq_T, Leq_F, n10_F, n01_F, le0_F, lt0_T, le0_T, eq0_F, lt1_F, nJ_not_neg, nJ_ne_neg, nJ_neg_lt, nJ_neg_le, nJ_le_neg, ↓reduceIte, ld_ok, st_ok, rf_ok, ld_okL, st_okL, nJ_add, nJ_addL, nJ_Ladd, nJ_mul, nJ_mulL, nJ_Lmul, eS.2.2.2.1 r hr, mS.2.2.2.1 r hr]
        exact ⟨_, _, _, rfl, rfl, Fr.rf, Fr.rf⟩
      · have hcl : f_X12_isClosed 10000 (nI r) τ = some (if (sX (aS A)).testBit r then 1 else 0) := by
          unfold f_X12_isClosed
          rw [ld_okL (by decide) (by decide), mS.2.2.2.2.2.1, has_nI (by omega)]
          cases (sX (aS A)).testBit r <;> rfl
        rw [eS.2.2.2.2.2.1, hcl, shr_nI (by omega)]
        cases (sX (aS A)).testBit r
        · exact ⟨_, _, _, rfl, rfl, Fr.rf, Fr.rf⟩
        · exact ⟨_, _, _, rfl, rfl, Fr.rf, Fr.rf⟩
    · rw [in_n h (by decide)]
      have ne : ∀ n, n < 7 → a2 ≠ nI n := by
        intro n hn e
        subst e
        rcases h with h | h
        · rw [nJ_not_neg (by omega)] at h; exact h
        · rw [nJ_le (by decide) (by omega)] at h; omega
      have n0 : ¬ a2 = 0 := ne 0 (by decide)
      have n1 : ¬ a2 = 1 := ne 1 (by decide)
      have n2 : ¬ a2 = 2 := ne 2 (by decide)
      have n3 : ¬ a2 = 3 := ne 3 (by decide)
      have n4 : ¬ a2 = 4 := ne 4 (by decide)
      have n5 : ¬ a2 = 5 := ne 5 (by decide)
      have n6 : ¬ a2 = 6 := ne 6 (by decide)
      simp only [n0, n1, n2, n3, n4, n5, n6, sg_cr, sg_cl, sg_lb, sg_pf, sg_pl, sg_nz, sg_nzl, sg_nar0, sg_nar1, lt_T, lt_F, le_T, le_F, eq_T, eq_F, ltL_T, ltL_F, leL_T, leL_F, eqL_T, eqL_F, Llt_T, Llt_F, Lle_T, Lle_F, Leq_T, Leq_F, n10_F, n01_F, le0_F, lt0_T, le0_T, eq0_F, lt1_F, nJ_not_neg, nJ_ne_neg, nJ_neg_lt, nJ_neg_le, nJ_le_neg, ↓reduceIte, ld_ok, st_ok, rf_ok, ld_okL, st_okL, nJ_add, nJ_addL, nJ_Ladd, nJ_mul, nJ_mulL, nJ_Lmul]
      exact ⟨_, _, _, rfl, rfl, Fr.rf, Fr.rf⟩
  · rw [hasRoad_n eC.2.1 h, isRoad_n eM.2.1 h (by omega)]
    exact ⟨_, _, _, rfl, rfl, Fr.rf, Fr.rf⟩
