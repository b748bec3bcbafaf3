/-! the reference lays them -/
def meM (j _k : Nat) : Prop := j = 9 ∨ j = 10
theorem MK_fr {K : Cty} {τ τ' : sgS} (H : MK K τ) (h : ∀ j, 15 ≤ j → j ≤ 18 → τ'.1 j = τ.1 j) (h0 : ∀ k, 28 ≤ k → k ≤ 30 → τ'.1 0 k = τ.1 0 k) : MK K τ' := by
  unfold MK at H ⊢
  rw [h0 28 (by decide) (by decide), h0 29 (by decide) (by decide), h0 30 (by decide) (by decide), h 15 (by decide) (by decide), h 16 (by decide) (by decide), h 17 (by decide) (by decide), h 18 (by decide) (by decide)]
  exact H
theorem MLw_fr {W : Lws} {τ τ' : sgS} (H : MLw W τ) (f : Fr meM τ τ') : MLw W τ' := by
  have e' : ∀ j, j ≠ 9 → j ≠ 10 → τ'.1 j = τ.1 j := fun j h1 h2 => funext fun k => f j k (by unfold meM; omega)
  unfold MLw MLaw at H ⊢
  rw [e' 0 (by decide) (by decide), e' 2 (by decide) (by decide), e' 3 (by decide) (by decide), e' 5 (by decide) (by decide), e' 6 (by decide) (by decide), e' 7 (by decide) (by decide), e' 8 (by decide) (by decide)]
  exact H
theorem of_ok {N r k v : Nat} {τ : sgS} (h : 4 * r + k < 48) (e : τ.1 17 (4 * r + k) = nI v) : f_X12_of N (nI r) (nI k) τ = some (nI v) := by
  unfold f_X12_of
  rw [nJ_Lmul, nJ_add, ld_ok h (by decide), e]
theorem mworth_ok {N n : Nat} {W : Lws} {L : Nat → Int32} {τ : sgS} (hN : 10000 ≤ N) (H : MLw W τ) (ok : okW W) (hn : n < W.1) (hl : ∀ v, v < 6 → τ.1 9 v = L v) (hL : ∀ v, v < 6 → okv false (L v)) : ∃ τ', f_X12_worthOf N (nI n) τ = some (lwWorth L (W.2.2 n), τ') ∧ Fr stkM τ τ' := by
  have h1 := ok.1
  obtain ⟨k1, k2, k3⟩ := ok.2.2 n hn
  have k4 := items_le (l := W.2.2 n)
  obtain ⟨τ2, e2, f2⟩ := m_worth (N := N) (n := n) hN hL (by omega) k2 (by omega) k3 (W.2.2 n).length 0 N τ (by omega) (H.2.2 n hn) hl (by omega)
  refine ⟨τ2, ?_, f2⟩
  unfold f_X12_worthOf
  rw [nJ_Lmul]
  exact e2
theorem longBy_ok {N r : Nat} {K : Cty} {W : Lws} {S : Sta} {τ : sgS} (hN : 10000 ≤ N) (okk : okK K) (okw : okW W) (hs : okG K S) (hK : MK K τ) (hW : MLw W τ) (hS : MS K S (τ.1 21)) (hr : r < cR K) : ∃ τ', f_X12_longBy N (nI r) τ = some (nI (hLg K W S r), τ') ∧ Fr meM τ τ' := by
  have hr12 := okk.2.1
  have hp7 := okk.1
  have hd := hs.2.2
  have hc := okk.2.2.2.2.2.2.1 r hr
  obtain ⟨a1, a2, a3, a4⟩ := hK.2.2.2.2.2.1 r hr
  have o2 : ∀ τ', Fr meM τ τ' → f_X12_of N (nI r) 2 τ' = some (nI (cL K r)) := fun τ' f => of_ok (k := 2) (by omega) ((f 17 _ (by unfold meM; omega)).trans a3)
  have o3 : ∀ τ', Fr meM τ τ' → f_X12_of N (nI r) 3 τ' = some (nI (cD K r)) := fun τ' f => of_ok (k := 3) (by omega) ((f 17 _ (by unfold meM; omega)).trans a4)
  have o0 : ∀ τ', Fr meM τ τ' → f_X12_of N (nI r) 0 τ' = some (nI (cA K r)) := fun τ' f => of_ok (k := 0) (by omega) ((f 17 _ (by unfold meM; omega)).trans a1)
  have o1 : ∀ τ', Fr meM τ τ' → f_X12_of N (nI r) 1 τ' = some (nI (cB K r)) := fun τ' f => of_ok (k := 1) (by omega) ((f 17 _ (by unfold meM; omega)).trans a2)
  unfold f_X12_longBy
  rw [o2 τ Fr.rf, o3 τ Fr.rf]
  by_cases cw : W.2.1 = 0
  · have e36 : τ.1 0 36 = -1 := by rw [hW.2.1, cw]; rfl
    refine ⟨τ, ?_, Fr.rf⟩
    simp (disch := omega) only [sg_cr, sg_cl, sg_lb, sg_pf, sg_pl, sg_nz, sg_nzl, sg_nar0, sg_nar1, lt_T, lt_F, le_T, le_F, eq_T, eq_F, ltL_T, ltL_F, leL_T, leL_F, eqL_T, eqL_F, Llt_T, Llt_F, Lle_T, Lle_F, Leq_T, Leq_F, n10_F, n01_F, le0_F, lt0_T, le0_T, eq0_F, lt1_F, nJ_not_neg, nJ_ne_neg, nJ_neg_lt, nJ_neg_le, nJ_le_neg, ↓reduceIte, ld_ok, st_ok, rf_ok, ld_okL, st_okL, nJ_add, nJ_addL, nJ_Ladd, nJ_mul, nJ_mulL, nJ_Lmul, e36, nJ_divL]
    rw [if_neg (by decide)]
    unfold hLg
    rw [if_pos cw]
    by_cases h1 : 1 < cL K r + cD K r / 4
    · rw [if_pos (by rw [nJ_Llt (by omega) (by decide)]; exact h1)]
    · rw [if_neg (by rw [nJ_Llt (by omega) (by decide)]; exact h1), show cL K r + cD K r / 4 = 1 by omega]; rfl
  · obtain ⟨h, h0⟩ : ∃ h, W.2.1 = h + 1 := ⟨W.2.1 - 1, by omega⟩
    have hw2 := okw.2.1
    have hw4 := okw.1
    have e36 : τ.1 0 36 = nI h := by rw [hW.2.1, h0, wI_s]
    have g1 := hK.2.2.2.2.1 (cA K r) hc.1
    have g2 := hK.2.2.2.2.1 (cB K r) hc.2.1
    have up9 : ∀ {τ' : sgS} {k : Nat} {v : Int32}, Fr meM τ τ' → Fr meM τ (sg_up τ' 9 k v) := fun f => f.tr (Fr.up (Or.inl rfl))
    have F1 : Fr meM τ (sg_up τ 9 0 (nI (cL K r))) := up9 Fr.rf
    have F2 : Fr meM τ (sg_up (sg_up τ 9 0 (nI (cL K r))) 9 1 (nI (cD K r))) := up9 F1
    have F3 : Fr meM τ (sg_up (sg_up (sg_up τ 9 0 (nI (cL K r))) 9 1 (nI (cD K r))) 9 2 (nI (sG S r))) := up9 F2
    have F6 : Fr meM τ (sg_up (sg_up (sg_up (sg_up (sg_up (sg_up τ 9 0 (nI (cL K r))) 9 1 (nI (cD K r))) 9 2 (nI (sG S r))) 9 3 (nI (cU K (cA K r) + cU K (cB K r)))) 9 4 (bcF (nI (sX S)))) 9 5 (nI (sD S % 100))) := up9 (up9 (up9 F3))
    obtain ⟨τ3, e3, f3⟩ := mworth_ok (N := N) (n := h) (L := lwLet K S r) hN (MLw_fr hW F6) okw (by omega) (fun v hv => by
      rcases v with _ | _ | _ | _ | _ | _ | v
      · simp (disch := omega) only [sg_row_nt, up_ne, sg_row_at, up_at, up_nk]; rfl
      · simp (disch := omega) only [sg_row_nt, up_ne, sg_row_at, up_at, up_nk]; rfl
      · simp (disch := omega) only [sg_row_nt, up_ne, sg_row_at, up_at, up_nk]; rfl
      · simp (disch := omega) only [sg_row_nt, up_ne, sg_row_at, up_at, up_nk]; rfl
      · simp (disch := omega) only [sg_row_nt, up_ne, sg_row_at, up_at, up_nk]; rfl
      · simp (disch := omega) only [sg_row_nt, up_ne, sg_row_at, up_at, up_nk]; rfl
      · omega) (lwLet_ok okk hs hr)
    refine ⟨τ3, ?_, F6.tr (f3.mono (fun j k h => Or.inr h))⟩
    simp (disch := omega) only [sg_cr, sg_cl, sg_lb, sg_pf, sg_pl, sg_nz, sg_nzl, sg_nar0, sg_nar1, lt_T, lt_F, le_T, le_F, eq_T, eq_F, ltL_T, ltL_F, leL_T, leL_F, eqL_T, eqL_F, Llt_T, Llt_F, Lle_T, Lle_F, Leq_T, Leq_F, n10_F, n01_F, le0_F, lt0_T, le0_T, eq0_F, lt1_F, nJ_not_neg, nJ_ne_neg, nJ_neg_lt, nJ_neg_le, nJ_le_neg, ↓reduceIte, ld_ok, st_ok, rf_ok, ld_okL, st_okL, nJ_add, nJ_addL, nJ_Ladd, nJ_mul, nJ_mulL, nJ_Lmul, e36, o3 _ F1, up_ne, hS.2.2.2.1 r hr, o0 _ F3, o1 _ F3, g1, g2, hS.2.2.2.2.2.1, bc_ok, hS.2.2.2.2.2.2.2, nJ_modL, e3]
    rw [if_neg (by decide), if_neg (by decide), clamp24]
    unfold hLg
    rw [if_neg cw, h0, Nat.add_sub_cancel]
def mlM (j k : Nat) : Prop := meM j k ∨ j = 23
theorem MLw_fr2 {W : Lws} {τ τ' : sgS} (H : MLw W τ) (f : Fr mlM τ τ') : MLw W τ' := by
  have e' : ∀ j, j ≠ 9 → j ≠ 10 → j ≠ 23 → τ'.1 j = τ.1 j := fun j h1 h2 h3 => funext fun k => f j k (by unfold mlM meM; omega)
  unfold MLw MLaw at H ⊢
  rw [e' 0 (by decide) (by decide) (by decide), e' 2 (by decide) (by decide) (by decide), e' 3 (by decide) (by decide) (by decide), e' 5 (by decide) (by decide) (by decide), e' 6 (by decide) (by decide) (by decide), e' 7 (by decide) (by decide) (by decide), e' 8 (by decide) (by decide) (by decide)]
  exact H
theorem layLongs_ok {N : Nat} {K : Cty} {W : Lws} {S : Sta} {τ : sgS} (hN : 10000 ≤ N) (okk : okK K) (okw : okW W) (hs : okG K S) (hK : MK K τ) (hW : MLw W τ) (hS : MS K S (τ.1 21)) : ∃ τ', f_X12_layLongs N τ = some (0, τ') ∧ (∀ r, r < cR K → τ'.1 23 r = nI (hLg K W S r)) ∧ Fr mlM τ τ' := by
  have hr12 := okk.2.1
  have key := lp_rule (b := fun x : sgS × Int32 => f_X12_layLongs_L2 N x.2 x.1) (Inv := fun x => ∃ k, k ≤ cR K ∧ x.2 = nI k ∧ Fr mlM τ x.1 ∧ ∀ r, r < k → x.1.1 23 r = nI (hLg K W S r)) (m := fun x => cR K - x.2.toNatClampNeg) (A := fun _ => False) (C := fun y => Fr mlM τ y ∧ ∀ r, r < cR K → y.1 23 r = nI (hLg K W S r)) (by
    rintro ⟨τ1, x⟩ ⟨k, hk, ex, f1, hh⟩
    have ex : x = nI k := ex
    have f1 : Fr mlM τ τ1 := f1
    have hh : ∀ r, r < k → τ1.1 23 r = _ := hh
    subst ex
    have e' : ∀ j, j ≠ 9 → j ≠ 10 → j ≠ 23 → τ1.1 j = τ.1 j := fun j h1 h2 h3 => funext fun k => f1 j k (by unfold mlM meM; omega)
    have K1 : MK K τ1 := MK_fr hK (fun j h3 h9 => e' j (by omega) (by omega) (by omega)) (fun k _ _ => f1 0 k (by unfold mlM meM; omega))
    have W1 : MLw W τ1 := MLw_fr2 hW f1
    have S1 : MS K S (τ1.1 21) := by rw [e' 21 (by decide) (by decide) (by decide)]; exact hS
    show ∃ y, f_X12_layLongs_L2 N (nI k) τ1 = some y ∧ _
    unfold f_X12_layLongs_L2
    rw [K1.2.1]
    by_cases ck : k = cR K
    · subst ck
      simp (disch := omega) only [sg_cr, sg_cl, sg_lb, sg_pf, sg_pl, sg_nz, sg_nzl, sg_nar0, sg_nar1, lt_T, lt_F, le_T, le_F, eq_T, eq_F, ltL_T, ltL_F, leL_T, leL_F, eqL_T, eqL_F, Llt_T, Llt_F, Lle_T, Lle_F, Leq_T, Leq_F, n10_F, n01_F, le0_F, lt0_T, le0_T, eq0_F, lt1_F, nJ_not_neg, nJ_ne_neg, nJ_neg_lt, nJ_neg_le, nJ_le_neg, ↓reduceIte, ld_ok, st_ok, rf_ok, ld_okL, st_okL, nJ_add, nJ_addL, nJ_Ladd, nJ_mul, nJ_mulL, nJ_Lmul]
      exact ⟨_, rfl, f1, hh⟩
    · have hkr : k < cR K := by omega
      obtain ⟨τ2, e2, f2⟩ := longBy_ok (N := N) hN okk okw hs K1 W1 S1 hkr
      simp (disch := omega) only [sg_cr, sg_cl, sg_lb, sg_pf, sg_pl, sg_nz, sg_nzl, sg_nar0, sg_nar1, lt_T, lt_F, le_T, le_F, eq_T, eq_F, ltL_T, ltL_F, leL_T, leL_F, eqL_T, eqL_F, Llt_T, Llt_F, Lle_T, Lle_F, Leq_T, Leq_F, n10_F, n01_F, le0_F, lt0_T, le0_T, eq0_F, lt1_F, nJ_not_neg, nJ_ne_neg, nJ_neg_lt, nJ_neg_le, nJ_le_neg, ↓reduceIte, ld_ok, st_ok, rf_ok, ld_okL, st_okL, nJ_add, nJ_addL, nJ_Ladd, nJ_mul, nJ_mulL, nJ_Lmul, e2]
      refine ⟨_, rfl, ⟨k + 1, by omega, rfl, (f1.tr (f2.mono (fun j k h => Or.inl h))).tr (Fr.up (Or.inr rfl)), fun r hr => ?_⟩, ?_⟩
      · show (sg_up τ2 23 k _).1 23 r = _
        rw [up_get]
        by_cases cr : r = k
        · rw [if_pos ⟨rfl, cr⟩, cr]
        · rw [if_neg (fun z => cr z.2)]
          rw [f2 23 r (by unfold meM; omega)]; exact hh r (by omega)
      · show cR K - (nI (k + 1)).toNatClampNeg < cR K - (nI k).toNatClampNeg
        rw [nJ_clamp (by omega), nJ_clamp (by omega)]; omega) N ((τ, 0)) ⟨0, Nat.zero_le _, rfl, Fr.rf, fun r hr => absurd hr (Nat.not_lt_zero r)⟩ (by show cR K - _ < N; omega)
  obtain ⟨y, hy, hk⟩ := key
  unfold f_X12_layLongs
  rw [hy]
  match y, hk with
  | .inr y, hk => exact ⟨y, rfl, hk.2, hk.1⟩
  | .inl r, hk => exact hk.elim
