/-! HOW LONG THE ROADS ARE -/
def bcF (x : Int32) : Int32 := (f_J6_bitCount_0f7a4 0 x ((fun _ _ => 0, fun _ => 0) : sgS)).getD 0
theorem bc_ok {N : Nat} {x : Int32} {σ : sgS} : f_J6_bitCount_0f7a4 N x σ = some (bcF x) := rfl
set_option maxRecDepth 100000 in
theorem bc_bd {c : Nat} (h : c < 4096) : okv false (bcF (nI c)) := by
  have key : ∀ c : Fin 4096, decide (-1000000 ≤ (bcF (nI c.val)).toInt) && decide ((bcF (nI c.val)).toInt ≤ 1000000) = true := by decide +kernel
  have := key ⟨c, h⟩
  simp only [Bool.and_eq_true, decide_eq_true_eq] at this
  exact this
def lwLet (K : Cty) (S : Sta) (r v : Nat) : Int32 := if v = 0 then nI (cL K r) else if v = 1 then nI (cD K r) else if v = 2 then nI (sG S r) else if v = 3 then nI (cU K (cA K r) + cU K (cB K r)) else if v = 4 then bcF (nI (sX S)) else nI (sD S % 100)
def hLg (K : Cty) (W : Lws) (S : Sta) (r : Nat) : Nat := if W.2.1 = 0 then cL K r + cD K r / 4 else (max 1 (min 24 (lwWorth (lwLet K S r) (W.2.2 (W.2.1 - 1))).toInt)).toNat
theorem nI_okv {n : Nat} (h : n ≤ 1000000) : okv false (nI n) := by
  simp only [okv, Bool.false_eq_true, ↓reduceIte]
  rw [nJ_toInt (by omega)]; omega
def okG (K : Cty) (S : Sta) : Prop := (∀ k, k < cR K → sG S k ≤ 999) ∧ sX S < 4096 ∧ sD S < 2000
theorem lwLet_ok {K : Cty} {S : Sta} {r : Nat} (ok : okK K) (hs : okG K S) (hr : r < cR K) : ∀ v, v < 6 → okv false (lwLet K S r v) := by
  intro v hv
  have h6 := ok.2.2.2.2.2.2.1 r hr
  have h7 := ok.2.2.2.2.2.1 (cA K r) h6.1
  have h8 := ok.2.2.2.2.2.1 (cB K r) h6.2.1
  have h9 := hs.1 r hr
  unfold lwLet
  rcases v with _ | _ | _ | _ | _ | _ | v
  · exact nI_okv (by omega)
  · exact nI_okv (by omega)
  · exact nI_okv (by omega)
  · exact nI_okv (by omega)
  · exact bc_bd hs.2.1
  · exact nI_okv (by omega)
  · omega
theorem clamp24 {v : Int32} : (if (1 : Int32) < (if v < 24 then v else 24) then (if v < 24 then v else 24) else 1) = nI (max 1 (min 24 v.toInt)).toNat := by
  have e24 : (24 : Int32).toInt = 24 := by decide
  have e1 : (1 : Int32).toInt = 1 := by decide
  have hb : (max 1 (min 24 v.toInt)).toNat < 2147483648 := by omega
  rw [← Int32.toInt_inj, nJ_toInt hb]
  by_cases h1 : v < 24
  · rw [if_pos h1]
    rw [Int32.lt_iff_toInt_lt, e24] at h1
    by_cases h2 : 1 < v
    · rw [if_pos h2]
      rw [Int32.lt_iff_toInt_lt, e1] at h2
      omega
    · rw [if_neg h2, e1]
      rw [Int32.lt_iff_toInt_lt, e1] at h2
      omega
  · rw [if_neg h1, if_pos (by decide), e24]
    rw [Int32.lt_iff_toInt_lt, e24] at h1
    omega
theorem hLg_bd {K : Cty} {W : Lws} {S : Sta} {r : Nat} (ok : okK K) (hr : r < cR K) : 1 ≤ hLg K W S r ∧ hLg K W S r ≤ 24 := by
  have h6 := ok.2.2.2.2.2.2.1 r hr
  unfold hLg
  by_cases c : W.2.1 = 0
  · rw [if_pos c]; omega
  · rw [if_neg c]; omega
theorem items_le {l : List (List (Int32 × Int32) × List (Int32 × Int32))} : (lwItems l).length ≤ (lwCode l).length := by
  induction l with
  | nil => exact Nat.le_refl _
  | cons q l ih =>
    show (q.1 ++ q.2 ++ lwItems l).length ≤ (lwCl q ++ lwCode l).length
    rw [List.length_append, List.length_append, List.length_append]
    have : q.1.length + q.2.length ≤ (lwCl q).length := by
      unfold lwCl
      by_cases c : q.1 = []
      · rw [if_pos c, c]; simp
      · rw [if_neg c]; simp; omega
    omega
/-- the class measures: the roads of a state o -/
def meC (j k : Nat) : Prop := j = 50 ∨ j = 51 ∨ stkC j k
theorem oneHolds_y {N h : Nat} {W : Lws} {σ : sgS} (H : CLw W σ) (ok : okW W) (h0 : W.2.1 = h + 1) : f_X4_oneHolds N σ = some 1 := by
  have h1 := ok.1
  have h2 := ok.2.1
  have e : σ.1 21 5 = nI h := by rw [H.2.1, h0, wI_s]
  unfold f_X4_oneHolds
  rw [e, H.1]
  simp (disch := omega) only [sg_cr, sg_cl, sg_lb, sg_pf, sg_pl, sg_nz, sg_nzl, sg_nar0, sg_nar1, lt_T, lt_F, le_T, le_F, eq_T, eq_F, ltL_T, ltL_F, leL_T, leL_F, eqL_T, eqL_F, Llt_T, Llt_F, Lle_T, Lle_F, Leq_T, Leq_F, n10_F, n01_F, le0_F, lt0_T, le0_T, eq0_F, lt1_F, nJ_not_neg, nJ_ne_neg, nJ_neg_lt, nJ_neg_le, nJ_le_neg, ↓reduceIte, ld_ok, st_ok, rf_ok, ld_okL, st_okL, nJ_add, nJ_addL, nJ_Ladd, nJ_mul, nJ_mulL, nJ_Lmul]
theorem oneHolds_n {N : Nat} {W : Lws} {σ : sgS} (H : CLw W σ) (h0 : W.2.1 = 0) : f_X4_oneHolds N σ = some 0 := by
  have e : σ.1 21 5 = -1 := by rw [H.2.1, h0]; rfl
  unfold f_X4_oneHolds
  rw [e]; rfl
theorem CLw_fr {W : Lws} {σ σ' : sgS} (H : CLw W σ) (ok : okW W) (f : Fr meC σ σ') : CLw W σ' := by
  have h1 := ok.1
  refine ⟨?_, ?_, fun i hi => ⟨?_, fun k hk => ?_⟩⟩
  · rw [f 21 4 (by unfold meC stkC; omega)]; exact H.1
  · rw [f 21 5 (by unfold meC stkC; omega)]; exact H.2.1
  · rw [f 27 i (by unfold meC stkC; omega)]; exact (H.2.2 i hi).1
  · rw [f (23 + i) k (by unfold meC stkC; omega)]; exact (H.2.2 i hi).2 k hk
theorem CK_fr {K : Cty} {σ σ' : sgS} (H : CK K σ) (h : ∀ j, 3 ≤ j → j ≤ 9 → σ'.1 j = σ.1 j) : CK K σ' := by
  unfold CK at H ⊢
  rw [h 3 (by decide) (by decide), h 4 (by decide) (by decide), h 5 (by decide) (by decide), h 6 (by decide) (by decide), h 7 (by decide) (by decide), h 8 (by decide) (by decide), h 9 (by decide) (by decide)]
  exact H
theorem cworth_ok {N : Nat} {W : Lws} {L : Nat → Int32} {σ : sgS} (hN : 10000 ≤ N) (H : CLw W σ) (ok : okW W) {h : Nat} (h0 : W.2.1 = h + 1) (hl : ∀ v, v < 6 → σ.1 50 v = L v) (hL : ∀ v, v < 6 → okv false (L v)) : ∃ σ', f_X4_worth N 50 6 σ = some (lwWorth L (W.2.2 h), σ') ∧ Fr stkC σ σ' := by
  have h1 := ok.1
  have h2 := ok.2.1
  have hh : h < W.1 := by omega
  obtain ⟨k1, k2, k3⟩ := ok.2.2 h hh
  have e : σ.1 21 5 = nI h := by rw [H.2.1, h0, wI_s]
  unfold f_X4_worth
  rw [oneHolds_y H ok h0, e]
  simp (disch := omega) only [sg_cr, sg_cl, sg_lb, sg_pf, sg_pl, sg_nz, sg_nzl, sg_nar0, sg_nar1, lt_T, lt_F, le_T, le_F, eq_T, eq_F, ltL_T, ltL_F, leL_T, leL_F, eqL_T, eqL_F, Llt_T, Llt_F, Lle_T, Lle_F, Leq_T, Leq_F, n10_F, n01_F, le0_F, lt0_T, le0_T, eq0_F, lt1_F, nJ_not_neg, nJ_ne_neg, nJ_neg_lt, nJ_neg_le, nJ_le_neg, ↓reduceIte, ld_ok, st_ok, rf_ok, ld_okL, st_okL, nJ_add, nJ_addL, nJ_Ladd, nJ_mul, nJ_mulL, nJ_Lmul]
  have f0 : Fr stkC σ (sg_up σ 21 3 0) := Fr.up (Or.inr ⟨rfl, rfl⟩)
  obtain ⟨σ2, e2, f2⟩ := c_worth (N := N) (h := h) (n := (lwCode (W.2.2 h)).length) (code := lwCode (W.2.2 h)) hL (W.2.2 h) 0 N (sg_up σ 21 3 0) ⟨by omega, by rw [up_nk (by decide)]; exact e, by rw [up_ne (by decide)]; exact (H.2.2 h hh).1, k1, rfl, fun k hk => by rw [up_ne (by omega)]; exact (H.2.2 h hh).2 k hk, fun v hv => by rw [up_ne (by decide)]; exact hl v hv⟩ (fun k hk => by rw [Nat.zero_add]) (Nat.zero_add _) k3 ⟨up_at, fun k hk => absurd hk (Nat.not_lt_zero k)⟩ (by omega)
  exact ⟨σ2, e2, f0.tr f2⟩
theorem measure_ok {N o : Nat} {K : Cty} {W : Lws} {S : Sta} {σ : sgS} (hN : 10000 ≤ N) (okk : okK K) (okw : okW W) (hs : okG K S) (ho : o = 37 ∨ o = 43) (hK : CK K σ) (hW : CLw W σ) (hS : CS K S o σ) : ∃ σ', f_X1_measure N o σ = some (0, σ') ∧ (∀ r, r < cR K → σ'.1 51 r = nI (hLg K W S r)) ∧ Fr meC σ σ' := by
  have hr12 := okk.2.1
  have hp7 := okk.1
  have hd := hs.2.2
  have inner : ∀ (v1 : Int32), (W.2.1 = 0 → v1 = 0) → (W.2.1 ≠ 0 → v1 = 1) → ∃ σ', (sg_lb (sg_lp (fun x => f_X1_measure_L36 N o v1 x.2 x.1) N ((sg_up (sg_up σ 50 4 (bcF (nI (sX S)))) 50 5 (nI (sD S % 100)), 0))) (fun r => some r) fun y13 => some ((0 : Int32), y13)) = some (0, σ') ∧ (∀ r, r < cR K → σ'.1 51 r = nI (hLg K W S r)) ∧ Fr meC σ σ' := by
    intro v1 hv0 hv1
    have key := lp_rule (b := fun x : sgS × Int32 => f_X1_measure_L36 N o v1 x.2 x.1) (Inv := fun x => ∃ k, k ≤ cR K ∧ x.2 = nI k ∧ Fr meC σ x.1 ∧ x.1.1 50 4 = bcF (nI (sX S)) ∧ x.1.1 50 5 = nI (sD S % 100) ∧ ∀ r, r < k → x.1.1 51 r = nI (hLg K W S r)) (m := fun x => cR K - x.2.toNatClampNeg) (A := fun _ => False) (C := fun y => Fr meC σ y ∧ ∀ r, r < cR K → y.1 51 r = nI (hLg K W S r)) (by
      rintro ⟨σ1, x⟩ ⟨k, hk, ex, f1, l4, l5, hh⟩
      have ex : x = nI k := ex
      have f1 : Fr meC σ σ1 := f1
      have l4 : σ1.1 50 4 = _ := l4
      have l5 : σ1.1 50 5 = _ := l5
      have hh : ∀ r, r < k → σ1.1 51 r = _ := hh
      subst ex
      have K1 : CK K σ1 := CK_fr hK (fun j h3 h9 => funext fun q => f1 j q (by unfold meC stkC; omega))
      have W1 : CLw W σ1 := CLw_fr hW okw f1
      have S1 : CS K S o σ1 := CS_congr (fun i hi => funext fun q => f1 _ q (by unfold meC stkC; omega)) hS
      show ∃ y, f_X1_measure_L36 N o v1 (nI k) σ1 = some y ∧ _
      unfold f_X1_measure_L36
      rw [K1.2.1]
      by_cases ck : k = cR K
      · subst ck
        simp (disch := omega) only [sg_cr, sg_cl, sg_lb, sg_pf, sg_pl, sg_nz, sg_nzl, sg_nar0, sg_nar1, lt_T, lt_F, le_T, le_F, eq_T, eq_F, ltL_T, ltL_F, leL_T, leL_F, eqL_T, eqL_F, Llt_T, Llt_F, Lle_T, Lle_F, Leq_T, Leq_F, n10_F, n01_F, le0_F, lt0_T, le0_T, eq0_F, lt1_F, nJ_not_neg, nJ_ne_neg, nJ_neg_lt, nJ_neg_le, nJ_le_neg, ↓reduceIte, ld_ok, st_ok, rf_ok, ld_okL, st_okL, nJ_add, nJ_addL, nJ_Ladd, nJ_mul, nJ_mulL, nJ_Lmul]
        exact ⟨_, rfl, f1, hh⟩
      · have hkr : k < cR K := by omega
        have hc := okk.2.2.2.2.2.2.1 k hkr
        obtain ⟨a1, a2, a3, a4⟩ := K1.2.2.2.2.2.1 k hkr
        by_cases cw : W.2.1 = 0
        · have hv := hv0 cw
          subst hv
          simp (disch := omega) only [sg_cr, sg_cl, sg_lb, sg_pf, sg_pl, sg_nz, sg_nzl, sg_nar0, sg_nar1, lt_T, lt_F, le_T, le_F, eq_T, eq_F, ltL_T, ltL_F, leL_T, leL_F, eqL_T, eqL_F, Llt_T, Llt_F, Lle_T, Lle_F, Leq_T, Leq_F, n10_F, n01_F, le0_F, lt0_T, le0_T, eq0_F, lt1_F, nJ_not_neg, nJ_ne_neg, nJ_neg_lt, nJ_neg_le, nJ_le_neg, ↓reduceIte, ld_ok, st_ok, rf_ok, ld_okL, st_okL, nJ_add, nJ_addL, nJ_Ladd, nJ_mul, nJ_mulL, nJ_Lmul, a3, a4, nJ_divL]
          rw [if_neg (by decide)]
          refine ⟨_, rfl, ⟨k + 1, by omega, rfl, f1.tr (Fr.up (Or.inr (Or.inl rfl))), by rw [up_ne (by decide)]; exact l4, by rw [up_ne (by decide)]; exact l5, fun r hr => ?_⟩, ?_⟩
          · show (sg_up σ1 51 k _).1 51 r = _
            rw [up_get]
            by_cases cr : r = k
            · rw [if_pos ⟨rfl, cr⟩, cr]
              unfold hLg
              rw [if_pos cw]
            · rw [if_neg (fun z => cr z.2)]; exact hh r (by omega)
          · show cR K - (nI (k + 1)).toNatClampNeg < cR K - (nI k).toNatClampNeg
            rw [nJ_clamp (by omega), nJ_clamp (by omega)]; omega
        · have hv := hv1 cw
          subst hv
          obtain ⟨h, h0⟩ : ∃ h, W.2.1 = h + 1 := ⟨W.2.1 - 1, by omega⟩
          have g1 := K1.2.2.2.2.1 (cA K k) hc.1
          have g2 := K1.2.2.2.2.1 (cB K k) hc.2.1
          have et : f_X1_tellLetters N (nI k) o σ1 = some (0, sg_up (sg_up (sg_up (sg_up σ1 50 0 (nI (cL K k))) 50 1 (nI (cD K k))) 50 2 (nI (sG S k))) 50 3 (nI (cU K (cA K k) + cU K (cB K k)))) := by
            unfold f_X1_tellLetters
            simp (disch := omega) only [sg_cr, sg_cl, sg_lb, sg_pf, sg_pl, sg_nz, sg_nzl, sg_nar0, sg_nar1, lt_T, lt_F, le_T, le_F, eq_T, eq_F, ltL_T, ltL_F, leL_T, leL_F, eqL_T, eqL_F, Llt_T, Llt_F, Lle_T, Lle_F, Leq_T, Leq_F, n10_F, n01_F, le0_F, lt0_T, le0_T, eq0_F, lt1_F, nJ_not_neg, nJ_ne_neg, nJ_neg_lt, nJ_neg_le, nJ_le_neg, ↓reduceIte, ld_ok, st_ok, rf_ok, ld_okL, st_okL, nJ_add, nJ_addL, nJ_Ladd, nJ_mul, nJ_mulL, nJ_Lmul, up_ne, a1, a2, a3, a4, S1.2.2.2.1 k hkr, g1, g2]
          have ft : Fr meC σ1 (sg_up (sg_up (sg_up (sg_up σ1 50 0 (nI (cL K k))) 50 1 (nI (cD K k))) 50 2 (nI (sG S k))) 50 3 (nI (cU K (cA K k) + cU K (cB K k)))) := Fr.tr (Fr.tr (Fr.tr (Fr.up (Or.inl rfl)) (Fr.up (Or.inl rfl))) (Fr.up (Or.inl rfl))) (Fr.up (Or.inl rfl))
          obtain ⟨σ3, e3, f3⟩ := cworth_ok (N := N) (L := lwLet K S k) hN (CLw_fr W1 okw ft) okw h0 (fun v hv => by
            rcases v with _ | _ | _ | _ | _ | _ | v
            · simp (disch := omega) only [sg_row_nt, up_ne, sg_row_at, up_at, up_nk]; rfl
            · simp (disch := omega) only [sg_row_nt, up_ne, sg_row_at, up_at, up_nk]; rfl
            · simp (disch := omega) only [sg_row_nt, up_ne, sg_row_at, up_at, up_nk]; rfl
            · simp (disch := omega) only [sg_row_nt, up_ne, sg_row_at, up_at, up_nk]; rfl
            · simp (disch := omega) only [sg_row_nt, up_ne, sg_row_at, up_at, up_nk]; exact l4
            · simp (disch := omega) only [sg_row_nt, up_ne, sg_row_at, up_at, up_nk]; exact l5
            · omega) (lwLet_ok okk hs hkr)
          have f3' : Fr meC _ σ3 := f3.mono (fun j k h => Or.inr (Or.inr h))
          simp (disch := omega) only [sg_cr, sg_cl, sg_lb, sg_pf, sg_pl, sg_nz, sg_nzl, sg_nar0, sg_nar1, lt_T, lt_F, le_T, le_F, eq_T, eq_F, ltL_T, ltL_F, leL_T, leL_F, eqL_T, eqL_F, Llt_T, Llt_F, Lle_T, Lle_F, Leq_T, Leq_F, n10_F, n01_F, le0_F, lt0_T, le0_T, eq0_F, lt1_F, nJ_not_neg, nJ_ne_neg, nJ_neg_lt, nJ_neg_le, nJ_le_neg, ↓reduceIte, ld_ok, st_ok, rf_ok, ld_okL, st_okL, nJ_add, nJ_addL, nJ_Ladd, nJ_mul, nJ_mulL, nJ_Lmul, et, e3]
          rw [clamp24]
          refine ⟨_, rfl, ⟨k + 1, by omega, rfl, ((f1.tr ft).tr f3').tr (Fr.up (Or.inr (Or.inl rfl))), ?_, ?_, fun r hr => ?_⟩, ?_⟩
          · show (sg_up σ3 51 k _).1 50 4 = _
            rw [up_ne (by decide), f3 50 4 (by unfold stkC; omega)]; simp (disch := omega) only [sg_row_nt, up_ne, sg_row_at, up_at, up_nk]; exact l4
          · show (sg_up σ3 51 k _).1 50 5 = _
            rw [up_ne (by decide), f3 50 5 (by unfold stkC; omega)]; simp (disch := omega) only [sg_row_nt, up_ne, sg_row_at, up_at, up_nk]; exact l5
          · show (sg_up σ3 51 k _).1 51 r = _
            rw [up_get]
            by_cases cr : r = k
            · rw [if_pos ⟨rfl, cr⟩, cr]
              unfold hLg
              rw [if_neg cw, h0, Nat.add_sub_cancel]
            · rw [if_neg (fun z => cr z.2), f3 51 r (by unfold stkC; omega)]; simp (disch := omega) only [sg_row_nt, up_ne, sg_row_at, up_at, up_nk]; exact hh r (by omega)
          · show cR K - (nI (k + 1)).toNatClampNeg < cR K - (nI k).toNatClampNeg
            rw [nJ_clamp (by omega), nJ_clamp (by omega)]; omega) N ((sg_up (sg_up σ 50 4 (bcF (nI (sX S)))) 50 5 (nI (sD S % 100)), 0)) ⟨0, Nat.zero_le _, rfl, Fr.tr (Fr.up (Or.inl rfl)) (Fr.up (Or.inl rfl)), by simp (disch := omega) only [sg_row_nt, up_ne, sg_row_at, up_at, up_nk], by simp (disch := omega) only [sg_row_nt, up_ne, sg_row_at, up_at, up_nk], fun r hr => absurd hr (Nat.not_lt_zero r)⟩ (by show cR K - _ < N; omega)
    obtain ⟨y, hy, hk⟩ := key
    rw [hy]
    match y, hk with
    | .inr y, hk => exact ⟨y, rfl, hk.2, hk.1⟩
    | .inl r, hk => exact hk.elim
  have h7 := hS.2.2.2.2.2.1
  have h8 := hS.2.2.2.2.2.2.2
  unfold f_X1_measure
  by_cases cw : W.2.1 = 0
  · obtain ⟨σ', e1, e2, e3⟩ := inner 0 (fun _ => rfl) (fun h => absurd cw h)
    refine ⟨σ', ?_, e2, e3⟩
    rw [oneHolds_n hW cw, h7]
    simp (disch := omega) only [sg_cr, sg_cl, sg_lb, sg_pf, sg_pl, sg_nz, sg_nzl, sg_nar0, sg_nar1, lt_T, lt_F, le_T, le_F, eq_T, eq_F, ltL_T, ltL_F, leL_T, leL_F, eqL_T, eqL_F, Llt_T, Llt_F, Lle_T, Lle_F, Leq_T, Leq_F, n10_F, n01_F, le0_F, lt0_T, le0_T, eq0_F, lt1_F, nJ_not_neg, nJ_ne_neg, nJ_neg_lt, nJ_neg_le, nJ_le_neg, ↓reduceIte, ld_ok, st_ok, rf_ok, ld_okL, st_okL, nJ_add, nJ_addL, nJ_Ladd, nJ_mul, nJ_mulL, nJ_Lmul, bc_ok, up_ne, h8, nJ_modL]
    rw [if_neg (by decide)]
    exact e1
  · obtain ⟨h, h0⟩ : ∃ h, W.2.1 = h + 1 := ⟨W.2.1 - 1, by omega⟩
    obtain ⟨σ', e1, e2, e3⟩ := inner 1 (fun h => absurd h cw) (fun _ => rfl)
    refine ⟨σ', ?_, e2, e3⟩
    rw [oneHolds_y hW okw h0, h7]
    simp (disch := omega) only [sg_cr, sg_cl, sg_lb, sg_pf, sg_pl, sg_nz, sg_nzl, sg_nar0, sg_nar1, lt_T, lt_F, le_T, le_F, eq_T, eq_F, ltL_T, ltL_F, leL_T, leL_F, eqL_T, eqL_F, Llt_T, Llt_F, Lle_T, Lle_F, Leq_T, Leq_F, n10_F, n01_F, le0_F, lt0_T, le0_T, eq0_F, lt1_F, nJ_not_neg, nJ_ne_neg, nJ_neg_lt, nJ_neg_le, nJ_le_neg, ↓reduceIte, ld_ok, st_ok, rf_ok, ld_okL, st_okL, nJ_add, nJ_addL, nJ_Ladd, nJ_mul, nJ_mulL, nJ_Lmul, bc_ok, up_ne, h8, nJ_modL]
    rw [if_neg (by decide)]
    exact e1
