/-! the class: a set's day, all sets' day -/
theorem pass_step {N o w y c h : Nat} {K : Cty} {Y : Wys} {H : Nat → Nat} {S : Sta} {σ : sgS} (hN : 10000 ≤ N) (okk : okK K) (oky : okY Y) (h0 : cP K ≠ 0) (hK : CK K σ) (hY : CY Y σ) (hH : ∀ r, r < cR K → σ.1 51 r = nI (H r) ∧ H r < 100) (ho : o = 37 ∨ o = 43) (hS : CS K S o σ) (ok : okM K Y w y S) (hw : w < cS K) (hb : sB S w < wL Y y) (hh : h ≤ 24) :
    match goS K Y H w y S h with
    | none => f_X1_passOf_L34 N (nI w) o (nI y) (nI c) (nI h) (nI (sB S w)) σ = some (.inl (nI c, σ))
    | some q => q.2 ≤ 24 ∧ ∃ σ', f_X1_passOf_L34 N (nI w) o (nI y) (nI c) (nI h) (nI (sB S w)) σ = some (.inr (.inl (σ', nI (c + 1), nI q.2, nI (sB S w + 1)))) ∧ CS K q.1 o σ' ∧ Fr (pb o (o + 5)) σ σ' := by
  have hs4 := okk.2.2.1
  have hr12 := okk.2.1
  have hp7 := okk.1
  have hH24 := (okk.2.2.2.2.1 h0).2.2.2
  have hy : y < wN Y := by have := (ok.1 w hw).2.1; have := ok.2.2.2.2.2.2.1; omega
  have hwn := oky.1
  have hl := oky.2 y hy
  have hnx := hl.2.2 (sB S w) hb
  have hpw := (ok.1 w hw).1
  have hsP := hS.1 w hw
  have step : ∀ (S1 : Sta) (σ1 : sgS) (h1 : Nat), CK K σ1 → CS K S1 o σ1 → wS Y y (sB S w) < cP K → (∀ k, k < cP K → sC S1 k ≤ 999) → sK S1 ≤ 999 → sB S1 w = sB S w → ∃ σ', f_X1_passOf_L34_B160 N (nI w) o (nI y) (nI c) (nI h1) (nI (sB S w)) (nI (wS Y y (sB S w))) σ1 = some (.inr (.inl (σ', nI (c + 1), nI h1, nI (sB S w + 1)))) ∧ CS K (stp K S1 w (wS Y y (sB S w))) o σ' ∧ Fr (pb o (o + 5)) σ1 σ' := by
    intro S1 σ1 h1 K1 C1 hlt g1 g2 g3
    obtain ⟨σ2, e2, s2, f2⟩ := callAt_ok (N := N) okk K1 (by omega) C1 hlt g1 g2
    refine ⟨sg_up σ2 (o + 3) w (nI (sB S w + 1)), ?_, ?_, f2.tr (Fr.up (by unfold pb; omega))⟩
    · unfold f_X1_passOf_L34_B160
      simp (disch := omega) only [sg_cr, sg_cl, sg_lb, sg_pf, sg_pl, sg_nz, sg_nzl, sg_nar0, sg_nar1, lt_T, lt_F, le_T, le_F, eq_T, eq_F, ltL_T, ltL_F, leL_T, leL_F, eqL_T, eqL_F, Llt_T, Llt_F, Lle_T, Lle_F, Leq_T, Leq_F, n10_F, n01_F, le0_F, lt0_T, le0_T, eq0_F, lt1_F, nJ_not_neg, nJ_ne_neg, nJ_neg_lt, nJ_neg_le, nJ_le_neg, ↓reduceIte, ld_ok, st_ok, rf_ok, ld_okL, st_okL, nJ_add, nJ_addL, nJ_Ladd, nJ_mul, nJ_mulL, nJ_Lmul, e2]
    · unfold stp
      rw [g3]
      exact CS_B s2
  have hsh := shortest_ok (N := N) (X := sX S) (p := sP S w) (q := wS Y y (sB S w)) hN okk hK hH (by omega) (by omega)
  have hlt := goS_lt (H := H) (h := h) okk ok hw
  unfold goS at hlt ⊢
  by_cases c1 : wS Y y (sB S w) = sP S w
  · rw [if_pos c1]
    obtain ⟨σ', e1, e2, e3⟩ := step S σ h hK hS (by rw [c1]; exact hpw) ok.2.2.2.1 ok.2.2.2.2.2.1 rfl
    refine ⟨hh, σ', ?_, e2, e3⟩
    unfold f_X1_passOf_L34
    simp (disch := omega) only [sg_cr, sg_cl, sg_lb, sg_pf, sg_pl, sg_nz, sg_nzl, sg_nar0, sg_nar1, lt_T, lt_F, le_T, le_F, eq_T, eq_F, ltL_T, ltL_F, leL_T, leL_F, eqL_T, eqL_F, Llt_T, Llt_F, Lle_T, Lle_F, Leq_T, Leq_F, n10_F, n01_F, le0_F, lt0_T, le0_T, eq0_F, lt1_F, nJ_not_neg, nJ_ne_neg, nJ_neg_lt, nJ_neg_le, nJ_le_neg, ↓reduceIte, ld_ok, st_ok, rf_ok, ld_okL, st_okL, nJ_add, nJ_addL, nJ_Ladd, nJ_mul, nJ_mulL, nJ_Lmul, (hY.2 y hy).1, placeAt_y hY oky hy hb, hsP]
    exact e1
  · rw [if_neg c1] at hlt ⊢
    by_cases c2 : sBt K H (sX S) (sP S w) (wS Y y (sB S w)) (cR K) = 0 ∨ cH K < h + H (sBt K H (sX S) (sP S w) (wS Y y (sB S w)) (cR K) - 1)
    · rw [if_pos c2]
      show f_X1_passOf_L34 N (nI w) o (nI y) (nI c) (nI h) (nI (sB S w)) σ = some (.inl (nI c, σ))
      unfold f_X1_passOf_L34
      simp (disch := omega) only [sg_cr, sg_cl, sg_lb, sg_pf, sg_pl, sg_nz, sg_nzl, sg_nar0, sg_nar1, lt_T, lt_F, le_T, le_F, eq_T, eq_F, ltL_T, ltL_F, leL_T, leL_F, eqL_T, eqL_F, Llt_T, Llt_F, Lle_T, Lle_F, Leq_T, Leq_F, n10_F, n01_F, le0_F, lt0_T, le0_T, eq0_F, lt1_F, nJ_not_neg, nJ_ne_neg, nJ_neg_lt, nJ_neg_le, nJ_le_neg, ↓reduceIte, ld_ok, st_ok, rf_ok, ld_okL, st_okL, nJ_add, nJ_addL, nJ_Ladd, nJ_mul, nJ_mulL, nJ_Lmul, (hY.2 y hy).1, placeAt_y hY oky hy hb, hsP, hS.2.2.2.2.2.1, hsh]
      by_cases c3 : sBt K H (sX S) (sP S w) (wS Y y (sB S w)) (cR K) = 0
      · rw [c3, wI_0, if_pos rfl]
      · obtain ⟨b, hb2⟩ : ∃ b, sBt K H (sX S) (sP S w) (wS Y y (sB S w)) (cR K) = b + 1 := ⟨sBt K H (sX S) (sP S w) (wS Y y (sB S w)) (cR K) - 1, by omega⟩
        have hle := sBt_le (K := K) (H := H) (X := sX S) (p := sP S w) (q := wS Y y (sB S w)) (cR K)
        rw [hb2] at c2 hle ⊢
        have c4 := c2.resolve_left (by omega)
        rw [Nat.add_sub_cancel] at c4
        have e5 := hH b (by omega)
        simp (disch := omega) only [sg_cr, sg_cl, sg_lb, sg_pf, sg_pl, sg_nz, sg_nzl, sg_nar0, sg_nar1, lt_T, lt_F, le_T, le_F, eq_T, eq_F, ltL_T, ltL_F, leL_T, leL_F, eqL_T, eqL_F, Llt_T, Llt_F, Lle_T, Lle_F, Leq_T, Leq_F, n10_F, n01_F, le0_F, lt0_T, le0_T, eq0_F, lt1_F, nJ_not_neg, nJ_ne_neg, nJ_neg_lt, nJ_neg_le, nJ_le_neg, ↓reduceIte, ld_ok, st_ok, rf_ok, ld_okL, st_okL, nJ_add, nJ_addL, nJ_Ladd, nJ_mul, nJ_mulL, nJ_Lmul, wI_s, e5.1, (hK.2.2.2.1 h0).1]
    · rw [if_neg c2] at hlt ⊢
      have hlt := hlt (fun z => by cases z)
      have c3 : sBt K H (sX S) (sP S w) (wS Y y (sB S w)) (cR K) ≠ 0 := fun z => c2 (Or.inl z)
      have c4 : ¬ cH K < h + H (sBt K H (sX S) (sP S w) (wS Y y (sB S w)) (cR K) - 1) := fun z => c2 (Or.inr z)
      have hle := sBt_le (K := K) (H := H) (X := sX S) (p := sP S w) (q := wS Y y (sB S w)) (cR K)
      obtain ⟨b, hb2⟩ : ∃ b, sBt K H (sX S) (sP S w) (wS Y y (sB S w)) (cR K) = b + 1 := ⟨sBt K H (sX S) (sP S w) (wS Y y (sB S w)) (cR K) - 1, by omega⟩
      rw [hb2] at c4 hle hsh ⊢
      rw [Nat.add_sub_cancel] at c4 ⊢
      have e5 := hH b (by omega)
      have hg := ok.2.2.1 b (by omega)
      have s1 : CS K (setP (addG S b) w (wS Y y (sB S w))) o (sg_up (sg_up σ (o + 4) b (nI (min 999 (sG S b + 1)))) (o + 1) w (nI (wS Y y (sB S w)))) := CS_P (CS_G hS)
      obtain ⟨σ', e1, e2, e3⟩ := step (setP (addG S b) w (wS Y y (sB S w))) (sg_up (sg_up σ (o + 4) b (nI (min 999 (sG S b + 1)))) (o + 1) w (nI (wS Y y (sB S w)))) (h + H b) (CK_fr hK (fun j h3 h9 => by rw [up_ne (by omega), up_ne (by omega)])) s1 hlt ok.2.2.2.1 ok.2.2.2.2.2.1 rfl
      refine ⟨by show h + H b ≤ 24; omega, σ', ?_, e2, (Fr.tr (Fr.up (by unfold pb; omega)) (Fr.up (by unfold pb; omega))).tr e3⟩
      unfold f_X1_passOf_L34
      simp (disch := omega) only [sg_cr, sg_cl, sg_lb, sg_pf, sg_pl, sg_nz, sg_nzl, sg_nar0, sg_nar1, lt_T, lt_F, le_T, le_F, eq_T, eq_F, ltL_T, ltL_F, leL_T, leL_F, eqL_T, eqL_F, Llt_T, Llt_F, Lle_T, Lle_F, Leq_T, Leq_F, n10_F, n01_F, le0_F, lt0_T, le0_T, eq0_F, lt1_F, nJ_not_neg, nJ_ne_neg, nJ_neg_lt, nJ_neg_le, nJ_le_neg, ↓reduceIte, ld_ok, st_ok, rf_ok, ld_okL, st_okL, nJ_add, nJ_addL, nJ_Ladd, nJ_mul, nJ_mulL, nJ_Lmul, (hY.2 y hy).1, placeAt_y hY oky hy hb, hsP, hS.2.2.2.2.2.1, hsh, wI_s, e5.1, (hK.2.2.2.1 h0).1, hS.2.2.2.1 b (by omega), min999]
      exact e1
/-- what a class's method of days leaves -/
theorem CY_fr {Y : Wys} {σ σ' : sgS} (H : CY Y σ) (hn : wN Y ≤ 4) (h : ∀ j, 29 ≤ j → j ≤ 35 → σ'.1 j = σ.1 j) : CY Y σ' := by
  refine ⟨by rw [h 29 (by decide) (by decide)]; exact H.1, fun y hy => ⟨by rw [h 35 (by decide) (by decide)]; exact (H.2 y hy).1, fun i hi => by rw [h (31 + y) (by omega) (by omega)]; exact (H.2 y hy).2 i hi⟩⟩
theorem passOf_lp {N o w y : Nat} {K : Cty} {Y : Wys} {H : Nat → Nat} (hN : 10000 ≤ N) (okk : okK K) (oky : okY Y) (h0 : cP K ≠ 0) (ho : o = 37 ∨ o = 43) (hw : w < cS K) : ∀ (n : Nat) (S : Sta) (h c M : Nat) (σ : sgS), CK K σ → CY Y σ → (∀ r, r < cR K → σ.1 51 r = nI (H r) ∧ H r < 100) → CS K S o σ → okM K Y w y S → wL Y y + 1 ≤ sB S w + n → h ≤ 24 → n ≤ M →
    ∃ σ', (sg_lb (sg_lp (fun x => f_X1_passOf_L34 N (nI w) o (nI y) x.2.1 x.2.2.1 x.2.2.2 x.1) M ((σ, nI c, nI h, nI (sB S w)))) (fun r => some r) fun y17 => sg_cl (f_X8_takeWay N o (nI w) y17.1) fun v18 s19 => some (y17.2, s19)) = some (nI (goD K Y H w y n S h c).2, σ') ∧ CS K (goD K Y H w y n S h c).1 o σ' ∧ Fr (pb o (o + 5)) σ σ' := by
  have hs4 := okk.2.2.1
  intro n
  induction n with
  | zero => intro S h c M σ _ _ _ _ ok hn; have := ok.2.2.2.2.2.2.2.2; omega
  | succ n ih =>
    intro S h c M σ hK hY hH hS ok hn hh hM
    obtain ⟨M, rfl⟩ : ∃ m, M = m + 1 := ⟨M - 1, by omega⟩
    have hy : y < wN Y := by have := (ok.1 w hw).2.1; have := ok.2.2.2.2.2.2.1; omega
    have hl := oky.2 y hy
    have hwn := oky.1
    have hbl := ok.2.2.2.2.2.2.2.2
    by_cases hb : sB S w < wL Y y
    · have st := pass_step (N := N) (c := c) (H := H) hN okk oky h0 hK hY hH ho hS ok hw hb hh
      have eD : goD K Y H w y (n + 1) S h c = (match goS K Y H w y S h with | none => (S, c) | some q => goD K Y H w y n q.1 q.2 (c + 1)) := if_pos hb
      rw [eD]
      cases hq : goS K Y H w y S h with
      | none =>
        rw [hq] at st
        refine ⟨σ, ?_, hS, Fr.rf⟩
        rw [lp_ret st]
        rfl
      | some q =>
        rw [hq] at st
        obtain ⟨h24, σ1, e1, s1, f1⟩ := st
        obtain ⟨o1, o2, o3, o4⟩ := goS_ok okk ok hw hb hq
        obtain ⟨σ2, e2, s2, f2⟩ := ih q.1 q.2 (c + 1) M σ1 (CK_fr hK (fun j h3 h9 => funext fun k => f1 j k (by unfold pb; omega))) (CY_fr hY oky.1 (fun j h3 h9 => funext fun k => f1 j k (by unfold pb; omega))) (fun r hr => by rw [f1 51 r (by unfold pb; omega)]; exact hH r hr) s1 o1 (by omega) h24 (by omega)
        refine ⟨σ2, ?_, s2, f1.tr f2⟩
        rw [lp_step e1, ← o2, e2]
    · have eb : sB S w = wL Y y := by omega
      have eD : goD K Y H w y (n + 1) S h c = (setW S w 0 0, c) := if_neg hb
      rw [eD]
      have ew := CS_W (w := w) (y := 0) (b := 0) hS
      refine ⟨sg_up (sg_up σ (o + 2) w (wI 0)) (o + 3) w (nI 0), ?_, ew, Fr.tr (Fr.up (by unfold pb; omega)) (Fr.up (by unfold pb; omega))⟩
      rw [lp_out (y := (σ, nI c))]
      · unfold f_X8_takeWay
        simp (disch := omega) only [sg_cr, sg_cl, sg_lb, sg_pf, sg_pl, sg_nz, sg_nzl, sg_nar0, sg_nar1, lt_T, lt_F, le_T, le_F, eq_T, eq_F, ltL_T, ltL_F, leL_T, leL_F, eqL_T, eqL_F, Llt_T, Llt_F, Lle_T, Lle_F, Leq_T, Leq_F, n10_F, n01_F, le0_F, lt0_T, le0_T, eq0_F, lt1_F, nJ_not_neg, nJ_ne_neg, nJ_neg_lt, nJ_neg_le, nJ_le_neg, ↓reduceIte, ld_ok, st_ok, rf_ok, ld_okL, st_okL, nJ_add, nJ_addL, nJ_Ladd, nJ_mul, nJ_mulL, nJ_Lmul]
        rfl
      · show f_X1_passOf_L34 N (nI w) o (nI y) (nI c) (nI h) (nI (sB S w)) σ = _
        unfold f_X1_passOf_L34
        simp (disch := omega) only [sg_cr, sg_cl, sg_lb, sg_pf, sg_pl, sg_nz, sg_nzl, sg_nar0, sg_nar1, lt_T, lt_F, le_T, le_F, eq_T, eq_F, ltL_T, ltL_F, leL_T, leL_F, eqL_T, eqL_F, Llt_T, Llt_F, Lle_T, Lle_F, Leq_T, Leq_F, n10_F, n01_F, le0_F, lt0_T, le0_T, eq0_F, lt1_F, nJ_not_neg, nJ_ne_neg, nJ_neg_lt, nJ_neg_le, nJ_le_neg, ↓reduceIte, ld_ok, st_ok, rf_ok, ld_okL, st_okL, nJ_add, nJ_addL, nJ_Ladd, nJ_mul, nJ_mulL, nJ_Lmul, (hY.2 y hy).1, eb]
def dayW (K : Cty) (Y : Wys) (H : Nat → Nat) (w : Nat) (S : Sta) : Sta × Nat := if sW S w = 0 then (S, 0) else goD K Y H w (sW S w - 1) 14 S 0 0
theorem dayW_ok {K : Cty} {Y : Wys} {H : Nat → Nat} {w : Nat} {S : Sta} (okk : okK K) (oky : okY Y) (hw : w < cS K) (ok : okS K Y S) : okS K Y (dayW K Y H w S).1 ∧ sX (dayW K Y H w S).1 = sX S ∧ sD (dayW K Y H w S).1 = sD S ∧ (dayW K Y H w S).2 ≤ 14 := by
  unfold dayW
  by_cases c : sW S w = 0
  · rw [if_pos c]; exact ⟨ok, rfl, rfl, Nat.zero_le _⟩
  · rw [if_neg c]
    have hy : sW S w - 1 < wN Y := by have := (ok.1 w hw).2.1; omega
    have hl := oky.2 (sW S w - 1) hy
    have := goD_ok (H := H) okk hw 14 S 0 0 (okM_of (y := sW S w - 1) ok hw (by omega)) (by omega)
    exact ⟨this.1, this.2.1, this.2.2.1, by omega⟩
theorem passOf_ok {N o w : Nat} {K : Cty} {Y : Wys} {H : Nat → Nat} {S : Sta} {σ : sgS} (hN : 10000 ≤ N) (okk : okK K) (oky : okY Y) (h0 : cP K ≠ 0) (ho : o = 37 ∨ o = 43) (hw : w < cS K) (hK : CK K σ) (hY : CY Y σ) (hH : ∀ r, r < cR K → σ.1 51 r = nI (H r) ∧ H r < 100) (hS : CS K S o σ) (ok : okS K Y S) : ∃ σ', f_X1_passOf N (nI w) o σ = some (nI (dayW K Y H w S).2, σ') ∧ CS K (dayW K Y H w S).1 o σ' ∧ Fr (pb o (o + 5)) σ σ' := by
  have hs4 := okk.2.2.1
  have hwn := oky.1
  have eW := hS.2.1 w (by omega)
  unfold f_X1_passOf dayW
  by_cases c : sW S w = 0
  · rw [if_pos c]
    refine ⟨σ, ?_, hS, Fr.rf⟩
    rw [ld_ok (by omega) (by decide), eW, c, wI_0, has_n hY.1 (Or.inl (by decide))]
    rfl
  · rw [if_neg c]
    have hy : sW S w - 1 < wN Y := by have := (ok.1 w hw).2.1; omega
    have hl := oky.2 (sW S w - 1) hy
    have e1 : wI (sW S w) = nI (sW S w - 1) := by rw [show sW S w = (sW S w - 1) + 1 by omega, wI_s]; rfl
    obtain ⟨σ', e2, s2, f2⟩ := passOf_lp (N := N) (H := H) (y := sW S w - 1) hN okk oky h0 ho hw 14 S 0 0 N σ hK hY hH hS (okM_of ok hw (by omega)) (by omega) (by omega) (by omega)
    refine ⟨σ', ?_, s2, f2⟩
    rw [ld_ok (by omega) (by decide), eW, e1, has_y hY.1 hy (by omega)]
    simp (disch := omega) only [sg_cr, sg_cl, sg_lb, sg_pf, sg_pl, sg_nz, sg_nzl, sg_nar0, sg_nar1, lt_T, lt_F, le_T, le_F, eq_T, eq_F, ltL_T, ltL_F, leL_T, leL_F, eqL_T, eqL_F, Llt_T, Llt_F, Lle_T, Lle_F, Leq_T, Leq_F, n10_F, n01_F, le0_F, lt0_T, le0_T, eq0_F, lt1_F, nJ_not_neg, nJ_ne_neg, nJ_neg_lt, nJ_neg_le, nJ_le_neg, ↓reduceIte, ld_ok, st_ok, rf_ok, ld_okL, st_okL, nJ_add, nJ_addL, nJ_Ladd, nJ_mul, nJ_mulL, nJ_Lmul, hS.2.2.1 w hw] at e2 ⊢
    exact e2
/-- all sets, one behind the other -/
def daysW (K : Cty) (Y : Wys) (H : Nat → Nat) (S : Sta) : Nat → Sta × Nat
  | 0 => (S, 0)
  | n + 1 => ((dayW K Y H n (daysW K Y H S n).1).1, (daysW K Y H S n).2 + (dayW K Y H n (daysW K Y H S n).1).2)
theorem daysW_ok {K : Cty} {Y : Wys} {H : Nat → Nat} {S : Sta} (okk : okK K) (oky : okY Y) (ok : okS K Y S) : ∀ n, n ≤ cS K → okS K Y (daysW K Y H S n).1 ∧ sX (daysW K Y H S n).1 = sX S ∧ sD (daysW K Y H S n).1 = sD S ∧ (daysW K Y H S n).2 ≤ 14 * n := by
  intro n
  induction n with
  | zero => intro _; exact ⟨ok, rfl, rfl, Nat.le_refl _⟩
  | succ n ih =>
    intro hn
    obtain ⟨i1, i2, i3, i4⟩ := ih (by omega)
    obtain ⟨j1, j2, j3, j4⟩ := dayW_ok (H := H) (w := n) okk oky (by omega) i1
    exact ⟨j1, j2.trans i2, j3.trans i3, by show (daysW K Y H S n).2 + (dayW K Y H n (daysW K Y H S n).1).2 ≤ 14 * (n + 1); omega⟩
def setD (S : Sta) (d : Nat) : Sta := (S.1, S.2.1, S.2.2.1, d)
def dayA (K : Cty) (W : Lws) (Y : Wys) (S : Sta) : Sta := setD (daysW K Y (hLg K W S) S (cS K)).1 (sD S + 1)
def dayC (K : Cty) (W : Lws) (Y : Wys) (S : Sta) : Nat := (daysW K Y (hLg K W S) S (cS K)).2
theorem dayA_ok {K : Cty} {W : Lws} {Y : Wys} {S : Sta} (okk : okK K) (oky : okY Y) (ok : okS K Y S) : okS K Y (dayA K W Y S) ∧ sX (dayA K W Y S) = sX S ∧ sD (dayA K W Y S) = sD S + 1 ∧ dayC K W Y S ≤ 56 := by
  obtain ⟨i1, i2, i3, i4⟩ := daysW_ok (H := hLg K W S) okk oky ok (cS K) (Nat.le_refl _)
  have := okk.2.2.1
  exact ⟨i1, i2, rfl, by unfold dayC; omega⟩
def daC (o j k : Nat) : Prop := meC j k ∨ pb o (o + 5) j k
theorem okG_of {K : Cty} {Y : Wys} {S : Sta} (okk : okK K) (ok : okS K Y S) (hd : sD S < 2000) : okG K S := ⟨ok.2.2.1, by
  have := ok.2.2.2.2.1
  have h2 : 2 ^ cR K ≤ 2 ^ 12 := Nat.pow_le_pow_right (by decide) okk.2.1
  omega, hd⟩
theorem pass_ok {N o : Nat} {K : Cty} {W : Lws} {Y : Wys} {S : Sta} {σ : sgS} (hN : 10000 ≤ N) (okk : okK K) (okw : okW W) (oky : okY Y) (h0 : cP K ≠ 0) (ho : o = 37 ∨ o = 43) (hK : CK K σ) (hW : CLw W σ) (hY : CY Y σ) (hS : CS K S o σ) (ok : okS K Y S) (hd : sD S < 1999) : ∃ σ', f_X1_pass N o σ = some (nI (dayC K W Y S), σ') ∧ CS K (dayA K W Y S) o σ' ∧ Fr (daC o) σ σ' := by
  have hs4 := okk.2.2.1
  obtain ⟨σ1, e1, hH, f1⟩ := measure_ok (N := N) hN okk okw (okG_of okk ok (by omega)) ho hK hW hS
  have f1' : Fr (daC o) σ σ1 := f1.mono (fun j k h => Or.inl h)
  have K1 : CK K σ1 := CK_fr hK (fun j h3 h9 => funext fun q => f1 j q (by unfold meC stkC; omega))
  have Y1 : CY Y σ1 := CY_fr hY oky.1 (fun j h3 h9 => funext fun q => f1 j q (by unfold meC stkC; omega))
  have S1 : CS K S o σ1 := CS_congr (fun i hi => funext fun q => f1 _ q (by unfold meC stkC; omega)) hS
  have key := lp_rule (b := fun x : sgS × Int32 × Int32 => f_X1_pass_L9 N o x.2.1 x.2.2 x.1) (Inv := fun x => ∃ k, k ≤ cS K ∧ x.2.2 = nI k ∧ x.2.1 = nI (daysW K Y (hLg K W S) S k).2 ∧ CS K (daysW K Y (hLg K W S) S k).1 o x.1 ∧ Fr (pb o (o + 5)) σ1 x.1) (m := fun x => cS K - x.2.2.toNatClampNeg) (A := fun _ => False) (C := fun y => y.2 = nI (daysW K Y (hLg K W S) S (cS K)).2 ∧ CS K (daysW K Y (hLg K W S) S (cS K)).1 o y.1 ∧ Fr (pb o (o + 5)) σ1 y.1) (by
    rintro ⟨σ2, c2, x2⟩ ⟨k, hk, ex, ec, s2, f2⟩
    have ex : x2 = nI k := ex
    have ec : c2 = _ := ec
    have s2 : CS K (daysW K Y (hLg K W S) S k).1 o σ2 := s2
    have f2 : Fr (pb o (o + 5)) σ1 σ2 := f2
    subst ex ec
    have K2 : CK K σ2 := CK_fr K1 (fun j h3 h9 => funext fun q => f2 j q (by unfold pb; omega))
    have Y2 : CY Y σ2 := CY_fr Y1 oky.1 (fun j h3 h9 => funext fun q => f2 j q (by unfold pb; omega))
    have H2 : ∀ r, r < cR K → σ2.1 51 r = nI (hLg K W S r) ∧ hLg K W S r < 100 := fun r hr => ⟨by rw [f2 51 r (by unfold pb; omega)]; exact hH r hr, by have := hLg_bd (W := W) (S := S) okk hr; omega⟩
    show ∃ y, f_X1_pass_L9 N o (nI _) (nI k) σ2 = some y ∧ _
    unfold f_X1_pass_L9
    rw [K2.2.2.1]
    by_cases ck : k = cS K
    · subst ck
      simp (disch := omega) only [sg_cr, sg_cl, sg_lb, sg_pf, sg_pl, sg_nz, sg_nzl, sg_nar0, sg_nar1, lt_T, lt_F, le_T, le_F, eq_T, eq_F, ltL_T, ltL_F, leL_T, leL_F, eqL_T, eqL_F, Llt_T, Llt_F, Lle_T, Lle_F, Leq_T, Leq_F, n10_F, n01_F, le0_F, lt0_T, le0_T, eq0_F, lt1_F, nJ_not_neg, nJ_ne_neg, nJ_neg_lt, nJ_neg_le, nJ_le_neg, ↓reduceIte, ld_ok, st_ok, rf_ok, ld_okL, st_okL, nJ_add, nJ_addL, nJ_Ladd, nJ_mul, nJ_mulL, nJ_Lmul]
      exact ⟨_, rfl, rfl, s2, f2⟩
    · obtain ⟨σ3, e3, s3, f3⟩ := passOf_ok (N := N) (w := k) hN okk oky h0 ho (by omega) K2 Y2 H2 s2 (daysW_ok okk oky ok k hk).1
      simp (disch := omega) only [sg_cr, sg_cl, sg_lb, sg_pf, sg_pl, sg_nz, sg_nzl, sg_nar0, sg_nar1, lt_T, lt_F, le_T, le_F, eq_T, eq_F, ltL_T, ltL_F, leL_T, leL_F, eqL_T, eqL_F, Llt_T, Llt_F, Lle_T, Lle_F, Leq_T, Leq_F, n10_F, n01_F, le0_F, lt0_T, le0_T, eq0_F, lt1_F, nJ_not_neg, nJ_ne_neg, nJ_neg_lt, nJ_neg_le, nJ_le_neg, ↓reduceIte, ld_ok, st_ok, rf_ok, ld_okL, st_okL, nJ_add, nJ_addL, nJ_Ladd, nJ_mul, nJ_mulL, nJ_Lmul, e3]
      refine ⟨_, rfl, ⟨k + 1, by omega, rfl, rfl, s3, f2.tr f3⟩, ?_⟩
      show cS K - (nI (k + 1)).toNatClampNeg < cS K - (nI k).toNatClampNeg
      rw [nJ_clamp (by omega), nJ_clamp (by omega)]; omega) N ((σ1, 0, 0)) ⟨0, Nat.zero_le _, rfl, rfl, S1, Fr.rf⟩ (by show cS K - _ < N; omega)
  obtain ⟨y, hy, hk⟩ := key
  unfold f_X1_pass
  rw [e1]
  simp only [sg_cl]
  rw [hy]
  match y, hk with
  | .inr (σ4, c4), hk =>
    obtain ⟨k1, k2, k3⟩ := hk
    have k1 : c4 = _ := k1
    have k2 : CS K (daysW K Y (hLg K W S) S (cS K)).1 o σ4 := k2
    have k3 : Fr (pb o (o + 5)) σ1 σ4 := k3
    have e8 := k2.2.2.2.2.2.2.2
    have hdd := (daysW_ok (H := hLg K W S) okk oky ok (cS K) (Nat.le_refl _)).2.2.1
    rw [hdd] at e8
    obtain ⟨g1, g2, g3, g4, g5, g6, g7, g8⟩ := k2
    simp only [sg_lb, sg_pf]
    rw [e8, nJ_addL, k1]
    refine ⟨_, rfl, ⟨?_, ?_, ?_, ?_, ?_, ?_, ?_, up_at⟩, (f1'.tr (k3.mono (fun j k h => Or.inr h))).tr (Fr.up (Or.inr (by unfold pb; omega)))⟩
    · rw [up_ne (by omega)]; exact g1
    · rw [up_ne (by omega)]; exact g2
    · rw [up_ne (by omega)]; exact g3
    · rw [up_ne (by omega)]; exact g4
    · rw [up_ne (by omega)]; exact g5
    · rw [up_nk (by decide)]; exact g6
    · rw [up_nk (by decide)]; exact g7
  | .inl r, hk => exact hk.elim
