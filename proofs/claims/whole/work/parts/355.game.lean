/-! FAR, GAME, RESTS -/
theorem nn10 : ¬ (1 : Int32) = 0 := by decide
def netR (A : Abs) (H : Nat → Nat) (σ1 τ1 : sgS) : Prop := okH (aK A) H ∧ CK (aK A) σ1 ∧ CS (aK A) (aS A) 37 σ1 ∧ netC (aK A) H (sX (aS A)) σ1 ∧ MK (aK A) τ1 ∧ MS (aK A) (aS A) (τ1.1 21) ∧ netM (aK A) H (sX (aS A)) τ1
theorem net2 {A : Abs} {σ τ : sgS} (ok : okA A) (C : RelC A σ) (M : RelM A τ) (h0 : cP (aK A) ≠ 0) : ∃ H σ1 τ1, f_X5_measure 10000 37 σ = some (0, σ1) ∧ f_X12_layAway 10000 τ = some (0, τ1) ∧ netR A H σ1 τ1 ∧ Fr scC σ σ1 ∧ Fr scM τ τ1 := by
  have gC := RelC_iff.mp C
  have gM := RelM_iff.mp M
  have oS := ok.2.2.2.2.2.1 h0
  have hd9 : sD (aS A) ≤ 999 := ok.2.2.2.2.2.2.2.1
  obtain ⟨σ1, e1, n1, f1⟩ := netme_ok (N := 10000) (by decide) ok.2.1 ok.2.2.1 (okG_of ok.2.1 oS (by omega)) oS.2.2.2.2.1 gC.2.1 gC.2.2.1 (gC.2.2.2.2.1.1 h0)
  obtain ⟨τ1, e2, n2, f2⟩ := layAway_ok (N := 10000) (by decide) ok.2.1 ok.2.2.1 (okG_of ok.2.1 oS (by omega)) gM.2.1 gM.2.2.1 (gM.2.2.2.2.1.1 h0)
  have f1' : Fr scC σ σ1 := f1.mono (fun j k h => by unfold meN meC stkC at h; unfold scC; omega)
  have f2' : Fr scM τ τ1 := f2.mono (fun j k h => by unfold laM mlM meM at h; unfold scM; omega)
  refine ⟨hLg (aK A) (aL A) (aS A), σ1, τ1, e1, e2, ⟨fun r hr => hLg_bd ok.2.1 hr, (kC_sc ok gC f1').1, CS_congr (fun i hi => funext fun k => f1' _ k (by unfold scC; omega)) (gC.2.2.2.2.1.1 h0), n1, ?_, ?_, n2⟩, f1', f2'⟩
  · exact MK_fr gM.2.1 (fun j h3 h9 => funext fun k => f2' j k (by unfold scM; omega)) (fun k h3 h9 => f2' 0 k (by unfold scM; omega))
  · rw [show τ1.1 21 = τ.1 21 from funext fun k => f2' 21 k (by unfold scM; omega)]; exact gM.2.2.2.2.1.1 h0
theorem fwC_lt {v : Nat} (h : v < 100000) : fwC v = v := if_pos h
theorem reaches_ok {N a b X : Nat} {K : Cty} {H : Nat → Nat} {σ : sgS} (okk : okK K) (n : netC K H X σ) (ha : a < cP K) (hb : b < cP K) : f_X5_reaches N (nI a) (nI b) σ = some (if fwW K H X a b < 100000 then 1 else 0) := by
  have hp7 := okk.1
  unfold f_X5_reaches
  rw [rf_ok (by omega) (by decide), ld_ok (by omega) (by decide), (n.1 a b ha hb).2]
  unfold fwC
  by_cases c : fwW K H X a b < 100000
  · rw [if_pos c, if_pos c, if_neg (by rw [nJ_Lle (by omega) (by decide)]; omega)]; rfl
  · rw [if_neg c, if_neg c, if_pos (by decide)]; rfl
theorem awayOf_ok {N a b X : Nat} {K : Cty} {H : Nat → Nat} {τ : sgS} (n : netM K H X τ) (ha : a < 7) (hb : b < 7) : f_X12_awayOf N (nI a) (nI b) τ = some (nI (fwW K H X a b)) := by
  unfold f_X12_awayOf
  rw [nJ_Lmul, nJ_add, ld_ok (by omega) (by decide), (n.1 a b ha hb).2]
theorem lw_O20_ok : lw_O20 Rel := by
  intro a1 a2
  refine q_eq (fun A σ τ ok C M => ⟨10000, 10000, ?_⟩)
  have hp : cP (aK A) ≤ 7 := ok.2.1.1
  have eC := C.2.1
  have eM := M.2.1
  unfold f_X11_far f_X12_far
  rcases nJ_rng a1 (cP (aK A)) (by omega) with ⟨p, hp1, rfl⟩ | h
  · rcases nJ_rng a2 (cP (aK A)) (by omega) with ⟨q, hq1, rfl⟩ | h
    · obtain ⟨H, σ1, τ1, e1, e2, ⟨oH, k1, k2, k3, k4, k5, k6⟩, f1, f2⟩ := net2 ok C M (by omega)
      have hb := fwW_bd (X := sX (aS A)) (i := p) (j := q) ok.2.1 oH
      rw [hasPlaces_y eC.1 hp1 hq1 (by omega), isPlace_y eM.1 hp1 (by omega), isPlace_y eM.1 hq1 (by omega), e1, e2]
      simp only [cr_some, cl_some]
      rw [if_neg (by decide), if_neg (by decide), if_neg (by decide), reaches_ok ok.2.1 k3 hp1 hq1, awayOf_ok k6 (by omega) (by omega), rf_ok (by omega) (by decide), ld_ok (by omega) (by decide), (k3.1 p q hp1 hq1).2]
      simp only [cr_some]
      by_cases c : fwW (aK A) H (sX (aS A)) p q < 100000
      · rw [fwC_lt c]
        simp (disch := omega) only [cr_some, cl_some, lb_inr, lb_inl, pf_eq, pl_eq, nz_4, nz_7, nz_2, nz_40, nz_100, sg_nar0, sg_nar1, lt_T, lt_F, le_T, le_F, eq_T, eq_F, ltL_T, ltL_F, leL_T, leL_F, eqL_T, eqL_F, Llt_T, Llt_F, Lle_T, Lle_F, Leq_T, Leq_F, n10_F, n01_F, le0_F, lt0_T, le0_T, eq0_F, lt1_F, nJ_not_neg, nJ_ne_neg, nJ_neg_lt, nJ_neg_le, nJ_le_neg, ↓reduceIte, ld_ok, st_ok, rf_ok, ld_okL, st_okL, nJ_add, nJ_addL, nJ_Ladd, nJ_mul, nJ_mulL, nJ_Lmul, c]
        exact ⟨_, _, _, rfl, rfl, f1, f2⟩
      · simp (disch := omega) only [cr_some, cl_some, lb_inr, lb_inl, pf_eq, pl_eq, nz_4, nz_7, nz_2, nz_40, nz_100, sg_nar0, sg_nar1, lt_T, lt_F, le_T, le_F, eq_T, eq_F, ltL_T, ltL_F, leL_T, leL_F, eqL_T, eqL_F, Llt_T, Llt_F, Lle_T, Lle_F, Leq_T, Leq_F, n10_F, n01_F, le0_F, lt0_T, le0_T, eq0_F, lt1_F, nJ_not_neg, nJ_ne_neg, nJ_neg_lt, nJ_neg_le, nJ_le_neg, ↓reduceIte, ld_ok, st_ok, rf_ok, ld_okL, st_okL, nJ_add, nJ_addL, nJ_Ladd, nJ_mul, nJ_mulL, nJ_Lmul, c]
        exact ⟨_, _, _, rfl, rfl, f1, f2⟩
    · rw [hasPlaces_n2 eC.1 hp1 (by omega) h, isPlace_y eM.1 hp1 (by omega), isPlace_n eM.1 h (by omega)]
      exact ⟨_, _, _, rfl, rfl, Fr.rf, Fr.rf⟩
  · rw [hasPlaces_n1 eC.1 h, isPlace_n eM.1 h (by omega)]
    exact ⟨_, _, _, rfl, rfl, Fr.rf, Fr.rf⟩
/-- what a set has -/
def gn (K : Cty) (H : Nat → Nat) (S : Sta) (w x : Nat) (b : Bool) : Int32 := if x < cP K ∧ fwW K H (sX S) (sP S w) x < 100000 then (if b then (3 * nI (cU K x) - nI (fwW K H (sX S) (sP S w) x)) / 2 else 3 * nI (cU K x) - nI (fwW K H (sX S) (sP S w) x)) else -9
theorem gain_ok {A : Abs} {H : Nat → Nat} {σ1 τ1 : sgS} {N w x : Nat} {b : Bool} (ok : okA A) (n : netR A H σ1 τ1) (oS : okS (aK A) (aY A) (aS A)) (hw : w < cS (aK A)) (hx : x < 7) : f_X2_gain N (nI w) (nI x) (if b then 1 else 0) σ1 = some (gn (aK A) H (aS A) w x b) := by
  have hp7 := ok.2.1.1
  have hs4 := ok.2.1.2.2.1
  obtain ⟨oH, k1, k2, k3, k4, k5, k6⟩ := n
  have hpw := (oS.1 w hw).1
  unfold f_X2_gain
  rw [ld_ok (by omega) (by decide), k2.1 w hw]
  by_cases c1 : x < cP (aK A)
  · rw [hasPlace_y k1.1 c1 (by omega), reaches_ok ok.2.1 k3 hpw c1]
    simp only [cr_some]
    rw [if_neg nn10]
    by_cases c2 : fwW (aK A) H (sX (aS A)) (sP (aS A) w) x < 100000
    · have eG : gn (aK A) H (aS A) w x b = (if b then (3 * nI (cU (aK A) x) - nI (fwW (aK A) H (sX (aS A)) (sP (aS A) w) x)) / 2 else 3 * nI (cU (aK A) x) - nI (fwW (aK A) H (sX (aS A)) (sP (aS A) w) x)) := if_pos ⟨c1, c2⟩
      rw [eG, if_pos c2, if_neg nn10, ld_ok (by omega) (by decide), rf_ok (by omega) (by decide), ld_ok (by omega) (by decide), (k3.1 _ x hpw c1).2, fwC_lt c2, k1.2.2.2.2.1 x c1]
      cases b
      · rfl
      · rw [nz_2]; rfl
    · have eG : gn (aK A) H (aS A) w x b = -9 := if_neg (fun h => c2 h.2)
      rw [eG, if_neg c2, if_pos rfl]
  · have eG : gn (aK A) H (aS A) w x b = -9 := if_neg (fun h => c1 h.1)
    rw [eG, hasPlace_n k1.1 (Or.inr (by rw [nJ_le (by omega) (by omega)]; omega))]
    rfl
theorem gameOf_ok {A : Abs} {H : Nat → Nat} {σ1 τ1 : sgS} {N w x y : Nat} (ok : okA A) (n : netR A H σ1 τ1) (oS : okS (aK A) (aY A) (aS A)) (hw : w < cS (aK A)) (hx : x < 7) (hy : y < 7) : f_X12_gameOf N (nI w) (nI x) (nI y) τ1 = some (gn (aK A) H (aS A) w x (decide (x = y))) := by
  have hp7 := ok.2.1.1
  have hs4 := ok.2.1.2.2.1
  obtain ⟨oH, k1, k2, k3, k4, k5, k6⟩ := n
  have hpw := (oS.1 w hw).1
  have hb := fwW_bd (X := sX (aS A)) (i := sP (aS A) w) (j := x) ok.2.1 oH
  unfold f_X12_gameOf gn
  by_cases c1 : x < cP (aK A)
  · rw [isPlace_y k4.1 c1 (by omega)]
    simp only [cr_some]
    rw [if_neg (by decide), nJ_Ladd, Nat.zero_add, ld_ok (by omega) (by decide), k5.1 w hw, awayOf_ok k6 (by omega) (by omega)]
    simp only [cr_some]
    by_cases c2 : fwW (aK A) H (sX (aS A)) (sP (aS A) w) x < 100000
    · rw [if_pos (by rw [nJ_ltL (by omega) (by decide)]; exact c2), if_pos ⟨c1, c2⟩, ld_ok (by omega) (by decide), k4.2.2.2.2.1 x c1, ld_ok (by omega) (by decide), k5.1 w hw, awayOf_ok k6 (by omega) (by omega)]
      simp only [cr_some]
      by_cases c3 : x = y
      · rw [if_pos (by rw [c3]), nz_2, if_pos (decide_eq_true c3)]
      · rw [if_neg (by rw [nJ_eq (by omega) (by omega)]; exact c3), if_neg (by rw [decide_eq_true_eq]; exact c3)]
    · rw [if_neg (by rw [nJ_ltL (by omega) (by decide)]; exact c2), if_neg (fun h => c2 h.2)]
  · rw [isPlace_n k4.1 (Or.inr (by rw [nJ_le (by omega) (by omega)]; omega)) (by omega), if_neg (fun h => c1 h.1)]
    rfl
theorem two_y {N p q n : Nat} {σ : sgS} (e : σ.1 3 5 = nI n) (hp : p < n) (hq : q < n) (hn : n < 2147483648) (hne : p ≠ q) : f_X0_hasTwoSets N 3 (nI p) (nI q) σ = some 1 := by
  unfold f_X0_hasTwoSets
  rw [hasSet_y e hp hn, hasSet_y e hq hn]
  simp (disch := omega) only [cr_some, cl_some, lb_inr, lb_inl, pf_eq, pl_eq, nz_4, nz_7, nz_2, nz_40, nz_100, sg_nar0, sg_nar1, lt_T, lt_F, le_T, le_F, eq_T, eq_F, ltL_T, ltL_F, leL_T, leL_F, eqL_T, eqL_F, Llt_T, Llt_F, Lle_T, Lle_F, Leq_T, Leq_F, n10_F, n01_F, le0_F, lt0_T, le0_T, eq0_F, lt1_F, nJ_not_neg, nJ_ne_neg, nJ_neg_lt, nJ_neg_le, nJ_le_neg, ↓reduceIte, ld_ok, st_ok, rf_ok, ld_okL, st_okL, nJ_add, nJ_addL, nJ_Ladd, nJ_mul, nJ_mulL, nJ_Lmul]
theorem two_s {N p n : Nat} {σ : sgS} (e : σ.1 3 5 = nI n) (hp : p < n) (hn : n < 2147483648) : f_X0_hasTwoSets N 3 (nI p) (nI p) σ = some 0 := by
  unfold f_X0_hasTwoSets
  rw [hasSet_y e hp hn]
  simp (disch := omega) only [cr_some, cl_some, lb_inr, lb_inl, pf_eq, pl_eq, nz_4, nz_7, nz_2, nz_40, nz_100, sg_nar0, sg_nar1, lt_T, lt_F, le_T, le_F, eq_T, eq_F, ltL_T, ltL_F, leL_T, leL_F, eqL_T, eqL_F, Llt_T, Llt_F, Lle_T, Lle_F, Leq_T, Leq_F, n10_F, n01_F, le0_F, lt0_T, le0_T, eq0_F, lt1_F, nJ_not_neg, nJ_ne_neg, nJ_neg_lt, nJ_neg_le, nJ_le_neg, ↓reduceIte, ld_ok, st_ok, rf_ok, ld_okL, st_okL, nJ_add, nJ_addL, nJ_Ladd, nJ_mul, nJ_mulL, nJ_Lmul]
theorem two_n1 {N n : Nat} {x y : Int32} {σ : sgS} (e : σ.1 3 5 = nI n) (h : x < 0 ∨ nI n ≤ x) : f_X0_hasTwoSets N 3 x y σ = some 0 := by
  unfold f_X0_hasTwoSets
  rw [hasSet_n e h]; rfl
theorem two_n2 {N p n : Nat} {y : Int32} {σ : sgS} (e : σ.1 3 5 = nI n) (hp : p < n) (hn : n < 2147483648) (h : y < 0 ∨ nI n ≤ y) : f_X0_hasTwoSets N 3 (nI p) y σ = some 0 := by
  unfold f_X0_hasTwoSets
  rw [hasSet_y e hp hn, hasSet_n e h]; rfl
theorem sets_y {N p q n : Nat} {τ : sgS} (e : τ.1 0 30 = nI n) (hp : p < n) (hq : q < n) (hn : n < 2147483648) (hne : p ≠ q) : f_X12_areSets N (nI p) (nI q) τ = some 1 := by
  unfold f_X12_areSets
  rw [isSet_y e hp hn, isSet_y e hq hn]
  simp (disch := omega) only [cr_some, cl_some, lb_inr, lb_inl, pf_eq, pl_eq, nz_4, nz_7, nz_2, nz_40, nz_100, sg_nar0, sg_nar1, lt_T, lt_F, le_T, le_F, eq_T, eq_F, ltL_T, ltL_F, leL_T, leL_F, eqL_T, eqL_F, Llt_T, Llt_F, Lle_T, Lle_F, Leq_T, Leq_F, n10_F, n01_F, le0_F, lt0_T, le0_T, eq0_F, lt1_F, nJ_not_neg, nJ_ne_neg, nJ_neg_lt, nJ_neg_le, nJ_le_neg, ↓reduceIte, ld_ok, st_ok, rf_ok, ld_okL, st_okL, nJ_add, nJ_addL, nJ_Ladd, nJ_mul, nJ_mulL, nJ_Lmul]
theorem sets_s {N p n : Nat} {τ : sgS} (e : τ.1 0 30 = nI n) (hp : p < n) (hn : n < 2147483648) : f_X12_areSets N (nI p) (nI p) τ = some 0 := by
  unfold f_X12_areSets
  rw [isSet_y e hp hn]
  simp (disch := omega) only [cr_some, cl_some, lb_inr, lb_inl, pf_eq, pl_eq, nz_4, nz_7, nz_2, nz_40, nz_100, sg_nar0, sg_nar1, lt_T, lt_F, le_T, le_F, eq_T, eq_F, ltL_T, ltL_F, leL_T, leL_F, eqL_T, eqL_F, Llt_T, Llt_F, Lle_T, Lle_F, Leq_T, Leq_F, n10_F, n01_F, le0_F, lt0_T, le0_T, eq0_F, lt1_F, nJ_not_neg, nJ_ne_neg, nJ_neg_lt, nJ_neg_le, nJ_le_neg, ↓reduceIte, ld_ok, st_ok, rf_ok, ld_okL, st_okL, nJ_add, nJ_addL, nJ_Ladd, nJ_mul, nJ_mulL, nJ_Lmul]
theorem sets_n1 {N n : Nat} {x y : Int32} {τ : sgS} (e : τ.1 0 30 = nI n) (hn : n < 2147483648) (h : x < 0 ∨ nI n ≤ x) : f_X12_areSets N x y τ = some 0 := by
  unfold f_X12_areSets
  rw [isSet_n e h hn]; rfl
theorem sets_n2 {N p n : Nat} {y : Int32} {τ : sgS} (e : τ.1 0 30 = nI n) (hp : p < n) (hn : n < 2147483648) (h : y < 0 ∨ nI n ≤ y) : f_X12_areSets N (nI p) y τ = some 0 := by
  unfold f_X12_areSets
  rw [isSet_y e hp hn, isSet_n e h hn]; rfl
/-- two sets, or neither side goes on -/
theorem twoSets {A : Abs} {σ τ : sgS} (a1 a2 : Int32) (ok : okA A) (C : RelC A σ) (M : RelM A τ) : (∃ w o, w < cS (aK A) ∧ o < cS (aK A) ∧ w ≠ o ∧ a1 = nI w ∧ a2 = nI o ∧ f_X0_hasTwoSets 10000 3 a1 a2 σ = some 1 ∧ f_X12_areSets 10000 a1 a2 τ = some 1) ∨ (f_X0_hasTwoSets 10000 3 a1 a2 σ = some 0 ∧ f_X12_areSets 10000 a1 a2 τ = some 0) := by
  have hs : cS (aK A) ≤ 4 := ok.2.1.2.2.1
  have eC := C.2.1
  have eM := M.2.1
  rcases nJ_rng a1 (cS (aK A)) (by omega) with ⟨w, hw, rfl⟩ | h
  · rcases nJ_rng a2 (cS (aK A)) (by omega) with ⟨o, ho, rfl⟩ | h
    · by_cases c : w = o
      · subst c
        exact Or.inr ⟨two_s eC.2.2.1 hw (by omega), sets_s eM.2.2.1 hw (by omega)⟩
      · exact Or.inl ⟨w, o, hw, ho, c, rfl, rfl, two_y eC.2.2.1 hw ho (by omega) c, sets_y eM.2.2.1 hw ho (by omega) c⟩
    · exact Or.inr ⟨two_n2 eC.2.2.1 hw (by omega) h, sets_n2 eM.2.2.1 hw (by omega) h⟩
  · exact Or.inr ⟨two_n1 eC.2.2.1 h, sets_n1 eM.2.2.1 (by omega) h⟩
theorem rng_le {x : Int32} {n : Nat} (hn : n < 2147483648) (h : x < 0 ∨ nI n ≤ x) (h1 : ¬ x < 0) : ¬ x < nI n := by
  rcases nJ_cases x with hx | ⟨q, hq, rfl⟩
  · exact absurd hx h1
  · have := h.resolve_left h1
    rw [nJ_le hn hq] at this
    rw [nJ_lt hq hn]; omega
theorem lw_O31_ok : lw_O31 Rel := by
  intro a1 a2 a3 a4 a5
  refine q_eq (fun A σ τ ok C M => ⟨10000, 10000, ?_⟩)
  unfold f_X11_game f_X12_game
  rcases twoSets a1 a2 ok C M with ⟨w, o, hw, ho, hne, rfl, rfl, t1, t2⟩ | ⟨t1, t2⟩
  · have h0 : cP (aK A) ≠ 0 := fun h => by have := (ok.2.1.2.2.2.1 h).2; omega
    have oS := ok.2.2.2.2.2.1 h0
    rw [t1, t2, inL (m := 6) (by decide), inL (m := 6) (x := a4) (by decide)]
    simp only [cr_some]
    rw [if_neg nn10, if_neg nn10]
    rcases nJ_rng a3 (6 + 1) (by decide) with ⟨x, hx, rfl⟩ | h
    · rcases nJ_rng a4 (6 + 1) (by decide) with ⟨y, hy, rfl⟩ | h
      · rw [in_y hx (by decide), in_y hy (by decide)]
        obtain ⟨H, σ1, τ1, e1, e2, n, f1, f2⟩ := net2 ok C M h0
        have g1 : f_X2_gain 10000 (nI w) (nI x) 1 σ1 = some (gn (aK A) H (aS A) w x true) := gain_ok (b := true) ok n oS hw (by omega)
        have g2 : f_X2_gain 10000 (nI w) (nI x) 0 σ1 = some (gn (aK A) H (aS A) w x false) := gain_ok (b := false) ok n oS hw (by omega)
        have g3 : f_X2_gain 10000 (nI o) (nI y) 1 σ1 = some (gn (aK A) H (aS A) o y true) := gain_ok (b := true) ok n oS ho (by omega)
        have g4 : f_X2_gain 10000 (nI o) (nI y) 0 σ1 = some (gn (aK A) H (aS A) o y false) := gain_ok (b := false) ok n oS ho (by omega)
        have m1 := gameOf_ok (N := 10000) ok n oS hw (show x < 7 by omega) (show y < 7 by omega)
        have m2 := gameOf_ok (N := 10000) ok n oS ho (show y < 7 by omega) (show x < 7 by omega)
        by_cases c0 : a5 = 0
        · subst c0
          by_cases c : x = y
          · rw [decide_eq_true c] at m1
            simp (disch := omega) only [cr_some, cl_some, lb_inr, lb_inl, pf_eq, pl_eq, nz_4, nz_7, nz_2, nz_40, nz_100, sg_nar0, sg_nar1, lt_T, lt_F, le_T, le_F, eq_T, eq_F, ltL_T, ltL_F, leL_T, leL_F, eqL_T, eqL_F, Llt_T, Llt_F, Lle_T, Lle_F, Leq_T, Leq_F, n10_F, n01_F, le0_F, lt0_T, le0_T, eq0_F, lt1_F, nJ_not_neg, nJ_ne_neg, nJ_neg_lt, nJ_neg_le, nJ_le_neg, ↓reduceIte, ld_ok, st_ok, rf_ok, ld_okL, st_okL, nJ_add, nJ_addL, nJ_Ladd, nJ_mul, nJ_mulL, nJ_Lmul, e1, e2, in01_0, g1, m1]
            exact ⟨_, _, _, rfl, rfl, f1, f2⟩
          · rw [decide_eq_false c] at m1
            simp (disch := omega) only [cr_some, cl_some, lb_inr, lb_inl, pf_eq, pl_eq, nz_4, nz_7, nz_2, nz_40, nz_100, sg_nar0, sg_nar1, lt_T, lt_F, le_T, le_F, eq_T, eq_F, ltL_T, ltL_F, leL_T, leL_F, eqL_T, eqL_F, Llt_T, Llt_F, Lle_T, Lle_F, Leq_T, Leq_F, n10_F, n01_F, le0_F, lt0_T, le0_T, eq0_F, lt1_F, nJ_not_neg, nJ_ne_neg, nJ_neg_lt, nJ_neg_le, nJ_le_neg, ↓reduceIte, ld_ok, st_ok, rf_ok, ld_okL, st_okL, nJ_add, nJ_addL, nJ_Ladd, nJ_mul, nJ_mulL, nJ_Lmul, e1, e2, in01_0, g2, m1]
            exact ⟨_, _, _, rfl, rfl, f1, f2⟩
        · by_cases c1 : a5 = 1
          · subst c1
            by_cases c : x = y
            · rw [decide_eq_true c.symm] at m2
              simp (disch := omega) only [cr_some, cl_some, lb_inr, lb_inl, pf_eq, pl_eq, nz_4, nz_7, nz_2, nz_40, nz_100, sg_nar0, sg_nar1, lt_T, lt_F, le_T, le_F, eq_T, eq_F, ltL_T, ltL_F, leL_T, leL_F, eqL_T, eqL_F, Llt_T, Llt_F, Lle_T, Lle_F, Leq_T, Leq_F, n10_F, n01_F, le0_F, lt0_T, le0_T, eq0_F, lt1_F, nJ_not_neg, nJ_ne_neg, nJ_neg_lt, nJ_neg_le, nJ_le_neg, ↓reduceIte, ld_ok, st_ok, rf_ok, ld_okL, st_okL, nJ_add, nJ_addL, nJ_Ladd, nJ_mul, nJ_mulL, nJ_Lmul, e1, e2, in01_1, g3, m2]
              exact ⟨_, _, _, rfl, rfl, f1, f2⟩
            · rw [decide_eq_false (fun h => c h.symm)] at m2
              simp (disch := omega) only [cr_some, cl_some, lb_inr, lb_inl, pf_eq, pl_eq, nz_4, nz_7, nz_2, nz_40, nz_100, sg_nar0, sg_nar1, lt_T, lt_F, le_T, le_F, eq_T, eq_F, ltL_T, ltL_F, leL_T, leL_F, eqL_T, eqL_F, Llt_T, Llt_F, Lle_T, Lle_F, Leq_T, Leq_F, n10_F, n01_F, le0_F, lt0_T, le0_T, eq0_F, lt1_F, nJ_not_neg, nJ_ne_neg, nJ_neg_lt, nJ_neg_le, nJ_le_neg, ↓reduceIte, ld_ok, st_ok, rf_ok, ld_okL, st_okL, nJ_add, nJ_addL, nJ_Ladd, nJ_mul, nJ_mulL, nJ_Lmul, e1, e2, in01_1, g4, m2]
              exact ⟨_, _, _, rfl, rfl, f1, f2⟩
          · have h5 := not01 c0 c1
            rw [in01_n h5]
            by_cases h6 : a5 < 0
            · simp (disch := omega) only [cr_some, cl_some, lb_inr, lb_inl, pf_eq, pl_eq, nz_4, nz_7, nz_2, nz_40, nz_100, sg_nar0, sg_nar1, lt_T, lt_F, le_T, le_F, eq_T, eq_F, ltL_T, ltL_F, leL_T, leL_F, eqL_T, eqL_F, Llt_T, Llt_F, Lle_T, Lle_F, Leq_T, Leq_F, n10_F, n01_F, le0_F, lt0_T, le0_T, eq0_F, lt1_F, nJ_not_neg, nJ_ne_neg, nJ_neg_lt, nJ_neg_le, nJ_le_neg, ↓reduceIte, ld_ok, st_ok, rf_ok, ld_okL, st_okL, nJ_add, nJ_addL, nJ_Ladd, nJ_mul, nJ_mulL, nJ_Lmul, h6]
              exact ⟨_, _, _, rfl, rfl, Fr.rf, Fr.rf⟩
            · have h7 : ¬ a5 ≤ 1 := by
                rcases nJ_cases a5 with hx | ⟨q, hq, rfl⟩
                · exact absurd hx h6
                · have := h5.resolve_left h6
                  rw [nJ_le (by decide) hq] at this
                  rw [nJ_1, nJ_le hq (by decide)]; omega
              simp (disch := omega) only [cr_some, cl_some, lb_inr, lb_inl, pf_eq, pl_eq, nz_4, nz_7, nz_2, nz_40, nz_100, sg_nar0, sg_nar1, lt_T, lt_F, le_T, le_F, eq_T, eq_F, ltL_T, ltL_F, leL_T, leL_F, eqL_T, eqL_F, Llt_T, Llt_F, Lle_T, Lle_F, Leq_T, Leq_F, n10_F, n01_F, le0_F, lt0_T, le0_T, eq0_F, lt1_F, nJ_not_neg, nJ_ne_neg, nJ_neg_lt, nJ_neg_le, nJ_le_neg, ↓reduceIte, ld_ok, st_ok, rf_ok, ld_okL, st_okL, nJ_add, nJ_addL, nJ_Ladd, nJ_mul, nJ_mulL, nJ_Lmul, h6, h7]
              exact ⟨_, _, _, rfl, rfl, Fr.rf, Fr.rf⟩
      · rw [in_y hx (by decide), in_n h (by decide)]
        refine ⟨-1000000, σ, τ, ?_, rfl, Fr.rf, Fr.rf⟩
        by_cases h6 : a5 < 0
        · rw [if_pos h6]
        · rw [if_neg h6]
          by_cases h7 : a5 ≤ 1
          · rw [if_pos h7, if_neg (by rw [nJ_not_neg (by omega)]; exact id), if_neg (by rw [nJ_Lle (by omega) (by decide)]; omega)]
            by_cases h8 : a4 < 0
            · rw [if_pos h8]
            · rw [if_neg h8, if_neg (show ¬ a4 < 7 from rng_le (n := 7) (by decide) h h8)]
          · rw [if_neg h7]
    · rw [in_n h (by decide)]
      refine ⟨-1000000, σ, τ, ?_, rfl, Fr.rf, Fr.rf⟩
      by_cases h6 : a5 < 0
      · rw [if_pos h6]
      · rw [if_neg h6]
        by_cases h7 : a5 ≤ 1
        · rw [if_pos h7]
          by_cases h8 : a3 < 0
          · rw [if_pos h8]
          · rw [if_neg h8, if_pos (show 7 ≤ a3 from h.resolve_left h8)]
        · rw [if_neg h7]
  · rw [t1, t2]
    exact ⟨_, _, _, rfl, rfl, Fr.rf, Fr.rf⟩
/-! RESTS -/
def bst (K : Cty) (H : Nat → Nat) (S : Sta) (w x y n : Nat) : Prop := ∀ k, k < n → gn K H S w k (decide (k = y)) ≤ gn K H S w x (decide (x = y))
theorem best_ok {A : Abs} {H : Nat → Nat} {σ1 τ1 : sgS} {w x y : Nat} (ok : okA A) (n : netR A H σ1 τ1) (oS : okS (aK A) (aY A) (aS A)) (hw : w < cS (aK A)) (hx : x < 7) (hy : y < 7) : (bst (aK A) H (aS A) w x y (cP (aK A)) → f_X2_isBestAgainst 10000 (nI w) (nI x) (nI y) σ1 = some 1) ∧ (¬ bst (aK A) H (aS A) w x y (cP (aK A)) → f_X2_isBestAgainst 10000 (nI w) (nI x) (nI y) σ1 = some 0) := by
  have hp7 := ok.2.1.1
  have k1 := n.2.1
  have gk : ∀ k b, k < 7 → f_X2_gain 10000 (nI w) (nI k) (if b then 1 else 0) σ1 = some (gn (aK A) H (aS A) w k b) := fun k b hk => gain_ok ok n oS hw hk
  have gk1 : ∀ k, k < 7 → f_X2_gain 10000 (nI w) (nI k) 1 σ1 = some (gn (aK A) H (aS A) w k true) := fun k hk => gk k true hk
  have gk0 : ∀ k, k < 7 → f_X2_gain 10000 (nI w) (nI k) 0 σ1 = some (gn (aK A) H (aS A) w k false) := fun k hk => gk k false hk
  have hd : f_X2_isBestAgainst 10000 (nI w) (nI x) (nI y) σ1 = (sg_lb (sg_lp (fun z => f_X2_isBestAgainst_L21 10000 (nI w) (nI x) (nI y) (gn (aK A) H (aS A) w x (decide (x = y))) z σ1) 10000 0) (fun r => some r) fun _ => some (vp_nar .boolean 1)) := by
    unfold f_X2_isBestAgainst f_X2_isBestAgainst_B13
    by_cases c : x = y
    · rw [if_pos (by rw [c]), decide_eq_true c, gk1 x hx, cr_some]
    · rw [if_neg (by rw [nJ_eq (by omega) (by omega)]; exact c), decide_eq_false c, gk0 x hx, cr_some]
  have st : ∀ k, k < cP (aK A) → f_X2_isBestAgainst_L21 10000 (nI w) (nI x) (nI y) (gn (aK A) H (aS A) w x (decide (x = y))) (nI k) σ1 = if gn (aK A) H (aS A) w k (decide (k = y)) ≤ gn (aK A) H (aS A) w x (decide (x = y)) then some (.inr (.inl (nI (k + 1)))) else some (.inl 0) := by
    intro k hk
    unfold f_X2_isBestAgainst_L21
    rw [k1.1, if_neg (by rw [nJ_le (by omega) (by omega)]; omega), gk1 k (by omega), gk0 k (by omega)]
    simp only [cr_some]
    rw [nJ_addL]
    by_cases c : k = y
    · rw [if_pos (by rw [c]), decide_eq_true c]; rfl
    · rw [if_neg (by rw [nJ_eq (by omega) (by omega)]; exact c), decide_eq_false c]; rfl
  constructor
  · intro hb
    have key := lp_for (b := fun z => f_X2_isBestAgainst_L21 10000 (nI w) (nI x) (nI y) (gn (aK A) H (aS A) w x (decide (x = y))) z σ1) (fun k => nI k) (cP (aK A)) () (fun k hk => by show f_X2_isBestAgainst_L21 10000 (nI w) (nI x) (nI y) _ (nI k) σ1 = _; rw [st k hk, if_pos (hb k hk)]) (by
      show f_X2_isBestAgainst_L21 10000 (nI w) (nI x) (nI y) _ (nI (cP (aK A))) σ1 = _
      unfold f_X2_isBestAgainst_L21
      rw [k1.1, if_pos (by rw [nJ_le (by omega) (by omega)]; omega)]) 10000 0 (by omega) (by omega)
    have key : sg_lp (fun z => f_X2_isBestAgainst_L21 10000 (nI w) (nI x) (nI y) (gn (aK A) H (aS A) w x (decide (x = y))) z σ1) 10000 0 = _ := key
    rw [hd, key, lb_inr]; rfl
  · intro hb
    rcases first_of (fun k => ¬ gn (aK A) H (aS A) w k (decide (k = y)) ≤ gn (aK A) H (aS A) w x (decide (x = y))) (fun k => Decidable.em _) (cP (aK A) - 1) with ⟨m, h1, h2, h3⟩ | h1
    · have hm : m < cP (aK A) := by
        rcases Nat.eq_zero_or_pos (cP (aK A)) with hz | hz
        · exact absurd (fun k hk => absurd hk (by omega)) hb
        · omega
      obtain ⟨z, hz, e⟩ := lp_go (b := fun z => f_X2_isBestAgainst_L21 10000 (nI w) (nI x) (nI y) (gn (aK A) H (aS A) w x (decide (x = y))) z σ1) (n := m) (fun k z => z = nI k) (by
        rintro k z hk rfl
        refine ⟨nI (k + 1), ?_, rfl⟩
        show f_X2_isBestAgainst_L21 10000 (nI w) (nI x) (nI y) _ (nI k) σ1 = _
        rw [st k (by omega), if_pos (Decidable.not_not.mp (h3 k hk))]) m 0 10000 0 (by omega) (by omega) rfl
      subst hz
      rw [hd, e, show 10000 - m = (10000 - m - 1) + 1 by omega, lp_ret (r := 0) (by show f_X2_isBestAgainst_L21 10000 (nI w) (nI x) (nI y) _ (nI m) σ1 = _; rw [st m hm, if_neg h2]), lb_inl]
    · exact absurd (fun k hk => Decidable.not_not.mp (h1 k (by omega))) hb
def rst (K : Cty) (H : Nat → Nat) (S : Sta) (w o x y : Nat) : Prop := bst K H S w x y (cP K) ∧ bst K H S o y x (cP K)
theorem isRest_C {A : Abs} {H : Nat → Nat} {σ1 τ1 : sgS} {w o x y : Nat} (ok : okA A) (n : netR A H σ1 τ1) (oS : okS (aK A) (aY A) (aS A)) (hw : w < cS (aK A)) (ho : o < cS (aK A)) (hx : x < 7) (hy : y < 7) : (rst (aK A) H (aS A) w o x y → f_X2_isRest 10000 (nI w) (nI o) (nI x) (nI y) σ1 = some 1) ∧ (¬ rst (aK A) H (aS A) w o x y → f_X2_isRest 10000 (nI w) (nI o) (nI x) (nI y) σ1 = some 0) := by
  obtain ⟨b1, b2⟩ := best_ok (x := x) (y := y) ok n oS hw hx hy
  obtain ⟨b3, b4⟩ := best_ok (x := y) (y := x) ok n oS ho hy hx
  unfold f_X2_isRest
  constructor
  · rintro ⟨r1, r2⟩
    rw [b1 r1, b3 r2]; rfl
  · intro hn
    by_cases c1 : bst (aK A) H (aS A) w x y (cP (aK A))
    · rw [b1 c1, b4 (fun c2 => hn ⟨c1, c2⟩)]; rfl
    · rw [b2 c1]; rfl
theorem isRest_M {A : Abs} {H : Nat → Nat} {σ1 τ1 : sgS} {w o x y : Nat} (ok : okA A) (n : netR A H σ1 τ1) (oS : okS (aK A) (aY A) (aS A)) (hw : w < cS (aK A)) (ho : o < cS (aK A)) (hx : x < 7) (hy : y < 7) : (rst (aK A) H (aS A) w o x y → f_X12_isRest 10000 (nI w) (nI o) (nI x) (nI y) τ1 = some 1) ∧ (¬ rst (aK A) H (aS A) w o x y → f_X12_isRest 10000 (nI w) (nI o) (nI x) (nI y) τ1 = some 0) := by
  have hp7 := ok.2.1.1
  have k4 := n.2.2.2.2.1
  have st : ∀ k, k < cP (aK A) → f_X12_isRest_L3 10000 (nI w) (nI o) (nI x) (nI y) (nI k) τ1 = if gn (aK A) H (aS A) w k (decide (k = y)) ≤ gn (aK A) H (aS A) w x (decide (x = y)) ∧ gn (aK A) H (aS A) o k (decide (k = x)) ≤ gn (aK A) H (aS A) o y (decide (y = x)) then some (.inr (.inl (nI (k + 1)))) else some (.inl 0) := by
    intro k hk
    unfold f_X12_isRest_L3
    rw [k4.1, if_neg (by rw [nJ_le (by omega) (by omega)]; omega), gameOf_ok ok n oS hw (by omega) hy, gameOf_ok ok n oS hw hx hy, gameOf_ok ok n oS ho (by omega) hx, gameOf_ok ok n oS ho hy hx]
    simp only [cr_some]
    rw [nJ_addL]
    by_cases c1 : gn (aK A) H (aS A) w k (decide (k = y)) ≤ gn (aK A) H (aS A) w x (decide (x = y))
    · rw [if_neg (by rw [Int32.not_lt]; exact c1)]
      by_cases c2 : gn (aK A) H (aS A) o k (decide (k = x)) ≤ gn (aK A) H (aS A) o y (decide (y = x))
      · rw [if_pos c2, if_pos ⟨c1, c2⟩]
      · rw [if_neg c2, if_neg (fun h => c2 h.2)]; rfl
    · rw [if_pos (by rw [← Int32.not_le]; exact c1), if_neg (fun h => c1 h.1)]; rfl
  unfold f_X12_isRest
  constructor
  · rintro ⟨r1, r2⟩
    have key := lp_for (b := fun z => f_X12_isRest_L3 10000 (nI w) (nI o) (nI x) (nI y) z τ1) (fun k => nI k) (cP (aK A)) () (fun k hk => by show f_X12_isRest_L3 10000 (nI w) (nI o) (nI x) (nI y) (nI k) τ1 = _; rw [st k hk, if_pos ⟨r1 k hk, r2 k hk⟩]) (by
      show f_X12_isRest_L3 10000 (nI w) (nI o) (nI x) (nI y) (nI (cP (aK A))) τ1 = _
      unfold f_X12_isRest_L3
      rw [k4.1, if_pos (by rw [nJ_le (by omega) (by omega)]; omega)]) 10000 0 (by omega) (by omega)
    have key : sg_lp (fun z => f_X12_isRest_L3 10000 (nI w) (nI o) (nI x) (nI y) z τ1) 10000 0 = _ := key
    rw [key, lb_inr]; rfl
  · intro hn
    rcases first_of (fun k => ¬ (gn (aK A) H (aS A) w k (decide (k = y)) ≤ gn (aK A) H (aS A) w x (decide (x = y)) ∧ gn (aK A) H (aS A) o k (decide (k = x)) ≤ gn (aK A) H (aS A) o y (decide (y = x)))) (fun k => Decidable.em _) (cP (aK A) - 1) with ⟨m, h1, h2, h3⟩ | h1
    · have hm : m < cP (aK A) := by
        rcases Nat.eq_zero_or_pos (cP (aK A)) with hz | hz
        · exact absurd ⟨fun k hk => absurd hk (by omega), fun k hk => absurd hk (by omega)⟩ hn
        · omega
      obtain ⟨z, hz, e⟩ := lp_go (b := fun z => f_X12_isRest_L3 10000 (nI w) (nI o) (nI x) (nI y) z τ1) (n := m) (fun k z => z = nI k) (by
        rintro k z hk rfl
        refine ⟨nI (k + 1), ?_, rfl⟩
        show f_X12_isRest_L3 10000 (nI w) (nI o) (nI x) (nI y) (nI k) τ1 = _
        rw [st k (by omega), if_pos (Decidable.not_not.mp (h3 k hk))]) m 0 10000 0 (by omega) (by omega) rfl
      subst hz
      rw [e, show 10000 - m = (10000 - m - 1) + 1 by omega, lp_ret (r := 0) (by show f_X12_isRest_L3 10000 (nI w) (nI o) (nI x) (nI y) (nI m) τ1 = _; rw [st m hm, if_neg h2]), lb_inl]
    · exact absurd ⟨fun k hk => (Decidable.not_not.mp (h1 k (by omega))).1, fun k hk => (Decidable.not_not.mp (h1 k (by omega))).2⟩ hn
/-- how many of the first n -/
noncomputable def nof (f : Nat → Prop) : Nat → Nat
  | 0 => 0
  | n + 1 => nof f n + (@ite _ (f n) (Classical.propDecidable _) 1 0)
theorem nof_y {f : Nat → Prop} {n : Nat} (h : f n) : nof f (n + 1) = nof f n + 1 := by
  show nof f n + (@ite _ (f n) (Classical.propDecidable _) 1 0) = _
  rw [if_pos h]
theorem nof_n {f : Nat → Prop} {n : Nat} (h : ¬ f n) : nof f (n + 1) = nof f n := by
  show nof f n + (@ite _ (f n) (Classical.propDecidable _) 1 0) = _
  rw [if_neg h]; rfl
theorem nof_le {f : Nat → Prop} : ∀ n, nof f n ≤ n := by
  intro n
  induction n with
  | zero => exact Nat.le_refl _
  | succ n ih =>
    by_cases c : f n
    · rw [nof_y c]; omega
    · rw [nof_n c]; omega
theorem nof_mono {f : Nat → Prop} {m : Nat} : ∀ n, m ≤ n → nof f m ≤ nof f n := by
  intro n
  induction n with
  | zero => intro h; rw [show m = 0 by omega]; exact Nat.le_refl _
  | succ n ih =>
    intro h
    by_cases c2 : m = n + 1
    · rw [c2]; exact Nat.le_refl _
    · have := ih (by omega)
      by_cases c : f n
      · rw [nof_y c]; omega
      · rw [nof_n c]; omega
theorem div_mod_at {P x y : Nat} (hy : y < P) : (P * x + y) / P = x ∧ (P * x + y) % P = y := by
  constructor
  · rw [Nat.mul_add_div (by omega), Nat.div_eq_of_lt hy, Nat.add_zero]
  · rw [Nat.mul_add_mod, Nat.mod_eq_of_lt hy]
theorem lw_O32_ok : lw_O32 Rel := by
  intro a1 a2 a3
  refine q_eq (fun A σ τ ok C M => ⟨10000, 10000, ?_⟩)
  unfold f_X11_rests f_X12_rests
  rcases twoSets a1 a2 ok C M with ⟨w, o, hw, ho, hne, rfl, rfl, t1, t2⟩ | ⟨t1, t2⟩
  · have h0 : cP (aK A) ≠ 0 := fun h => by have := (ok.2.1.2.2.2.1 h).2; omega
    have oS := ok.2.2.2.2.2.1 h0
    have hp7 := ok.2.1.1
    rw [t1, t2]
    simp only [cr_some]
    rw [if_neg nn10, if_neg nn10]
    by_cases cn : (-1) ≤ a3
    · rw [if_pos cn, if_pos cn]
      obtain ⟨H, σ1, τ1, e1, e2, n, f1, f2⟩ := net2 ok C M h0
      have k1 := n.2.1
      have k4 := n.2.2.2.2.1
      rw [e1, e2]
      simp only [cl_some]
      generalize hf : (fun k => rst (aK A) H (aS A) w o (k / cP (aK A)) (k % cP (aK A))) = f
      have hsq : ∀ x y, x < cP (aK A) → y < cP (aK A) → cP (aK A) * x + y < cP (aK A) * cP (aK A) := by
        intro x y hx hy
        have : cP (aK A) * (x + 1) ≤ cP (aK A) * cP (aK A) := Nat.mul_le_mul_left _ hx
        rw [Nat.mul_add, Nat.mul_one] at this
        omega
      have hP2 : cP (aK A) * cP (aK A) ≤ 49 := by have := Nat.mul_le_mul hp7 hp7; omega
      have fxy : ∀ x y, y < cP (aK A) → (f (cP (aK A) * x + y) ↔ rst (aK A) H (aS A) w o x y) := by
        intro x y hy
        rw [← hf]
        obtain ⟨d1, d2⟩ := div_mod_at (P := cP (aK A)) (x := x) hy
        show rst (aK A) H (aS A) w o ((cP (aK A) * x + y) / cP (aK A)) ((cP (aK A) * x + y) % cP (aK A)) ↔ _
        rw [d1, d2]
      -- a step of the reference
      have stM : ∀ j p3, j < cP (aK A) * cP (aK A) → f_X12_rests_L26 10000 (nI w) (nI o) p3 (nI (nof f j)) (nI j) τ1 = @ite _ (f j) (Classical.propDecidable _) (if nI (nof f j) = p3 then some (.inl (nI (10 * (j / cP (aK A)) + j % cP (aK A)), τ1)) else some (.inr (.inl (nI (nof f j + 1), nI (j + 1))))) (some (.inr (.inl (nI (nof f j), nI (j + 1))))) := by
        intro j p3 hj
        have hd : j / cP (aK A) < cP (aK A) := Nat.div_lt_of_lt_mul hj
        have hm : j % cP (aK A) < cP (aK A) := Nat.mod_lt _ (by omega)
        obtain ⟨r1, r2⟩ := isRest_M (x := j / cP (aK A)) (y := j % cP (aK A)) ok n oS hw ho (by omega) (by omega)
        have nzp : ∀ {α : Type} {K : Option α}, sg_nz (nI (cP (aK A))) K = K := fun {α K} => if_neg (by rw [eq0_F (by omega) (by omega)]; exact id)
        unfold f_X12_rests_L26
        rw [k4.1, nJ_mul, if_neg (by rw [nJ_le (by omega) (by omega)]; omega)]
        simp only [nzp]
        rw [nJ_mod (by omega) (by omega), nJ_div (by omega) (by omega), nJ_Lmul, nJ_add, nJ_addL, nJ_addL]
        by_cases c : f j
        · rw [r1 (by rw [← hf] at c; exact c), if_pos c]
          simp only [cr_some]
          rw [if_neg (by decide)]
        · rw [r2 (by rw [← hf] at c; exact c), if_neg c, cr_some, if_pos rfl]
      have rM0 : ∀ p3 m, m ≤ cP (aK A) * cP (aK A) → (∀ j, j < m → f j → nI (nof f j) ≠ p3) → sg_lp (fun x : Int32 × Int32 => f_X12_rests_L26 10000 (nI w) (nI o) p3 x.1 x.2 τ1) 10000 ((0, 0)) = sg_lp (fun x : Int32 × Int32 => f_X12_rests_L26 10000 (nI w) (nI o) p3 x.1 x.2 τ1) (10000 - m) ((nI (nof f m), nI m)) := by
        intro p3 m hm hno
        obtain ⟨⟨z1, z2⟩, ⟨y1, y2⟩, e⟩ := lp_go (b := fun x : Int32 × Int32 => f_X12_rests_L26 10000 (nI w) (nI o) p3 x.1 x.2 τ1) (n := m) (fun j x => x.1 = nI (nof f j) ∧ x.2 = nI j) (by
          rintro j ⟨z1, z2⟩ hj ⟨y1, y2⟩
          have y1 : z1 = _ := y1
          have y2 : z2 = _ := y2
          subst y1 y2
          refine ⟨(nI (nof f (j + 1)), nI (j + 1)), ?_, rfl, rfl⟩
          show f_X12_rests_L26 10000 (nI w) (nI o) p3 (nI (nof f j)) (nI j) τ1 = _
          rw [stM j p3 (by omega)]
          by_cases c : f j
          · rw [if_pos c, if_neg (hno j hj c), nof_y c]
          · rw [if_neg c, nof_n c]) m 0 10000 ((0, 0)) (by omega) (by omega) ⟨rfl, rfl⟩
        have y1 : z1 = _ := y1
        have y2 : z2 = _ := y2
        subst y1 y2
        exact e
      have endM : ∀ p3 x1, f_X12_rests_L26 10000 (nI w) (nI o) p3 x1 (nI (cP (aK A) * cP (aK A))) τ1 = some (.inr (.inr x1)) := by
        intro p3 x1
        unfold f_X12_rests_L26
        rw [k4.1, nJ_mul, if_pos (by rw [nJ_le (by omega) (by omega)]; omega)]
      by_cases c1 : a3 = -1
      · -- how many
        subst c1
        rw [if_pos rfl]
        have hm := rM0 (-1) (cP (aK A) * cP (aK A)) (Nat.le_refl _) (fun j hj _ => by
          have := nof_le (f := f) j
          intro h
          rw [nJ_ne_neg (by omega)] at h
          exact h)
        rw [hm, show 10000 - cP (aK A) * cP (aK A) = (10000 - cP (aK A) * cP (aK A) - 1) + 1 by omega, lp_out (endM _ _), lb_inr, if_pos rfl]
        have inner : ∀ x, x < cP (aK A) → sg_lp (fun z : Int32 × Int32 => f_X2_howManyRests_L20 10000 (nI w) (nI o) (nI x) z.1 z.2 σ1) 10000 ((nI (nof f (cP (aK A) * x)), 0)) = some (.inr (nI (nof f (cP (aK A) * (x + 1))))) := by
          intro x hx
          have key := lp_for (b := fun z : Int32 × Int32 => f_X2_howManyRests_L20 10000 (nI w) (nI o) (nI x) z.1 z.2 σ1) (fun y => (nI (nof f (cP (aK A) * x + y)), nI y)) (cP (aK A)) (nI (nof f (cP (aK A) * x + cP (aK A)))) (fun y hy => by
            show f_X2_howManyRests_L20 10000 (nI w) (nI o) (nI x) (nI (nof f (cP (aK A) * x + y))) (nI y) σ1 = some (.inr (.inl (nI (nof f (cP (aK A) * x + y + 1)), nI (y + 1))))
            obtain ⟨r1, r2⟩ := isRest_C (x := x) (y := y) ok n oS hw ho (by omega) (by omega)
            unfold f_X2_howManyRests_L20
            rw [k1.1, if_neg (by rw [nJ_le (by omega) (by omega)]; omega), nJ_addL, nJ_addL, nJ_addL]
            by_cases c : rst (aK A) H (aS A) w o x y
            · rw [r1 c, nof_y ((fxy x y hy).mpr c)]
              simp only [cr_some]
              rw [if_neg (by decide)]
            · rw [r2 c, nof_n (fun h => c ((fxy x y hy).mp h)), cr_some, if_pos rfl, Nat.add_zero]) (by
            show f_X2_howManyRests_L20 10000 (nI w) (nI o) (nI x) _ (nI (cP (aK A))) σ1 = _
            unfold f_X2_howManyRests_L20
            rw [k1.1, if_pos (by rw [nJ_le (by omega) (by omega)]; omega)]) 10000 0 (by omega) (by omega)
          rw [Nat.mul_add, Nat.mul_one]
          exact key
        have key := lp_for (b := fun z : Int32 × Int32 => f_X2_howManyRests_L5 10000 (nI w) (nI o) z.1 z.2 σ1) (fun x => (nI (nof f (cP (aK A) * x)), nI x)) (cP (aK A)) (nI (nof f (cP (aK A) * cP (aK A)))) (fun x hx => by
          show f_X2_howManyRests_L5 10000 (nI w) (nI o) (nI (nof f (cP (aK A) * x))) (nI x) σ1 = _
          unfold f_X2_howManyRests_L5
          rw [k1.1, if_neg (by rw [nJ_le (by omega) (by omega)]; omega), inner x hx, lb_inr, nJ_addL]) (by
          show f_X2_howManyRests_L5 10000 (nI w) (nI o) _ (nI (cP (aK A))) σ1 = _
          unfold f_X2_howManyRests_L5
          rw [k1.1, if_pos (by rw [nJ_le (by omega) (by omega)]; omega)]) 10000 0 (by omega) (by omega)
        have key : sg_lp (fun z : Int32 × Int32 => f_X2_howManyRests_L5 10000 (nI w) (nI o) z.1 z.2 σ1) 10000 ((0, 0)) = _ := key
        unfold f_X2_howManyRests
        rw [key, lb_inr]
        simp only [cr_some]
        exact ⟨_, _, _, rfl, rfl, f1, f2⟩
      · -- the i-th
        rw [if_neg c1]
        obtain ⟨i, hi, rfl⟩ : ∃ i, i < 2147483648 ∧ a3 = nI i := by
          rcases nJ_cases a3 with hx | h
          · exfalso
            rw [Int32.le_iff_toInt_le, neg1_toInt] at cn
            rw [Int32.lt_iff_toInt_lt, show (0 : Int32).toInt = 0 from by decide] at hx
            exact c1 (by rw [← Int32.toInt_inj, neg1_toInt]; omega)
          · exact h
        have stC : ∀ x y, x < cP (aK A) → y < cP (aK A) → nof f (cP (aK A) * x + y) ≤ i → f_X2_restAt_L21 10000 (nI w) (nI o) (nI i) (nI x) (nI (i - nof f (cP (aK A) * x + y))) (nI y) σ1 = @ite _ (f (cP (aK A) * x + y)) (Classical.propDecidable _) (if i = nof f (cP (aK A) * x + y) then some (.inl (nI (10 * x + y))) else some (.inr (.inl (nI (i - (nof f (cP (aK A) * x + y) + 1)), nI (y + 1))))) (some (.inr (.inl (nI (i - nof f (cP (aK A) * x + y)), nI (y + 1))))) := by
          intro x y hx hy hle
          obtain ⟨r1, r2⟩ := isRest_C (x := x) (y := y) ok n oS hw ho (by omega) (by omega)
          unfold f_X2_restAt_L21
          rw [k1.1, if_neg (by rw [nJ_le (by omega) (by omega)]; omega), nJ_Lmul, nJ_add, nJ_addL]
          by_cases c : f (cP (aK A) * x + y)
          · rw [if_pos c, r1 ((fxy x y hy).mp c)]
            simp only [cr_some]
            rw [if_neg (by decide)]
            by_cases c2 : i = nof f (cP (aK A) * x + y)
            · rw [if_pos c2, if_pos (by rw [← c2, Nat.sub_self]; rfl)]
            · rw [if_neg c2, if_neg (by rw [eq0_F (by omega) (by omega)]; exact id), show nI (i - nof f (cP (aK A) * x + y)) + -1 = nI (i - (nof f (cP (aK A) * x + y) + 1)) from by
                rw [show (-1 : Int32) = -(nI 1) from rfl, ← Int32.sub_eq_add_neg, nJ_sub (by omega)]; congr 1]
          · rw [if_neg c, r2 (fun h => c ((fxy x y hy).mpr h)), cr_some, if_pos rfl]
        have endC : ∀ x z, f_X2_restAt_L21 10000 (nI w) (nI o) (nI i) (nI x) z (nI (cP (aK A))) σ1 = some (.inr (.inr z)) := by
          intro x z
          unfold f_X2_restAt_L21
          rw [k1.1, if_pos (by rw [nJ_le (by omega) (by omega)]; omega)]
        -- y places of row x without a hit
        have rowC : ∀ x y, x < cP (aK A) → y ≤ cP (aK A) → (∀ j, j < cP (aK A) * x + y → f j → nof f j ≠ i) → nof f (cP (aK A) * x + y) ≤ i → sg_lp (fun z : Int32 × Int32 => f_X2_restAt_L21 10000 (nI w) (nI o) (nI i) (nI x) z.1 z.2 σ1) 10000 ((nI (i - nof f (cP (aK A) * x)), 0)) = sg_lp (fun z : Int32 × Int32 => f_X2_restAt_L21 10000 (nI w) (nI o) (nI i) (nI x) z.1 z.2 σ1) (10000 - y) ((nI (i - nof f (cP (aK A) * x + y)), nI y)) := by
          intro x y hx hy hno hle
          obtain ⟨⟨z1, z2⟩, ⟨y1, y2⟩, e⟩ := lp_go (b := fun z : Int32 × Int32 => f_X2_restAt_L21 10000 (nI w) (nI o) (nI i) (nI x) z.1 z.2 σ1) (n := y) (fun j z => z.1 = nI (i - nof f (cP (aK A) * x + j)) ∧ z.2 = nI j) (by
            rintro j ⟨z1, z2⟩ hj ⟨y1, y2⟩
            have y1 : z1 = _ := y1
            have y2 : z2 = _ := y2
            subst y1 y2
            refine ⟨(nI (i - nof f (cP (aK A) * x + (j + 1))), nI (j + 1)), ?_, rfl, rfl⟩
            show f_X2_restAt_L21 10000 (nI w) (nI o) (nI i) (nI x) (nI (i - nof f (cP (aK A) * x + j))) (nI j) σ1 = _
            have hmo := nof_mono (f := f) (m := cP (aK A) * x + j) (cP (aK A) * x + y) (by omega)
            rw [stC x j hx (by omega) (by omega), ← Nat.add_assoc]
            by_cases c : f (cP (aK A) * x + j)
            · rw [if_pos c, if_neg (fun h => hno _ (by omega) c h.symm), nof_y c]
            · rw [if_neg c, nof_n c]) y 0 10000 ((nI (i - nof f (cP (aK A) * x)), 0)) (by omega) (by omega) ⟨rfl, rfl⟩
          have y1 : z1 = _ := y1
          have y2 : z2 = _ := y2
          subst y1 y2
          exact e
        -- x rows without a hit
        have rowsC : ∀ x, x ≤ cP (aK A) → (∀ j, j < cP (aK A) * x → f j → nof f j ≠ i) → nof f (cP (aK A) * x) ≤ i → sg_lp (fun z : Int32 × Int32 => f_X2_restAt_L6 10000 (nI w) (nI o) (nI i) z.1 z.2 σ1) 10000 ((nI i, 0)) = sg_lp (fun z : Int32 × Int32 => f_X2_restAt_L6 10000 (nI w) (nI o) (nI i) z.1 z.2 σ1) (10000 - x) ((nI (i - nof f (cP (aK A) * x)), nI x)) := by
          intro x hx hno hle
          obtain ⟨⟨z1, z2⟩, ⟨y1, y2⟩, e⟩ := lp_go (b := fun z : Int32 × Int32 => f_X2_restAt_L6 10000 (nI w) (nI o) (nI i) z.1 z.2 σ1) (n := x) (fun j z => z.1 = nI (i - nof f (cP (aK A) * j)) ∧ z.2 = nI j) (by
            rintro j ⟨z1, z2⟩ hj ⟨y1, y2⟩
            have y1 : z1 = _ := y1
            have y2 : z2 = _ := y2
            subst y1 y2
            refine ⟨(nI (i - nof f (cP (aK A) * (j + 1))), nI (j + 1)), ?_, rfl, rfl⟩
            show f_X2_restAt_L6 10000 (nI w) (nI o) (nI i) (nI (i - nof f (cP (aK A) * j))) (nI j) σ1 = _
            have hle2 : cP (aK A) * (j + 1) ≤ cP (aK A) * x := Nat.mul_le_mul_left _ hj
            have ej : cP (aK A) * (j + 1) = cP (aK A) * j + cP (aK A) := by rw [Nat.mul_add, Nat.mul_one]
            have hmo := nof_mono (f := f) (m := cP (aK A) * (j + 1)) (cP (aK A) * x) hle2
            unfold f_X2_restAt_L6
            rw [k1.1, if_neg (by rw [nJ_le (by omega) (by omega)]; omega), rowC j (cP (aK A)) (by omega) (Nat.le_refl _) (fun q hq => hno q (by omega)) (by rw [← ej]; omega), show 10000 - cP (aK A) = (10000 - cP (aK A) - 1) + 1 by omega, lp_out (endC j _), lb_inr, nJ_addL, ej]) x 0 10000 ((nI i, 0)) (by omega) (by omega) ⟨by show nI i = nI (i - nof f (cP (aK A) * 0)); rw [Nat.mul_zero]; rfl, rfl⟩
          have y1 : z1 = _ := y1
          have y2 : z2 = _ := y2
          subst y1 y2
          exact e
        have lem : ∀ j, (∀ q, q < j → f q → nof f q ≠ i) → nof f j ≤ i := by
          intro j
          induction j with
          | zero => intro _; exact Nat.zero_le _
          | succ j ih =>
            intro h
            have h1 := ih (fun q hq => h q (by omega))
            by_cases c : f j
            · have := h j (by omega) c
              rw [nof_y c]; omega
            · rw [nof_n c]; exact h1
        unfold f_X2_restAt
        rcases first_of (fun j => f j ∧ nof f j = i) (fun j => Classical.em _) (cP (aK A) * cP (aK A) - 1) with ⟨m, h1, ⟨h2, h3⟩, h4⟩ | h1
        · have hpos : 0 < cP (aK A) * cP (aK A) := Nat.mul_pos (by omega) (by omega)
          have hno : ∀ q, q < m → f q → nof f q ≠ i := fun q hq hf2 hc => h4 q hq ⟨hf2, hc⟩
          have hx : m / cP (aK A) < cP (aK A) := Nat.div_lt_of_lt_mul (by omega)
          have hy : m % cP (aK A) < cP (aK A) := Nat.mod_lt _ (by omega)
          have em : cP (aK A) * (m / cP (aK A)) + m % cP (aK A) = m := Nat.div_add_mod m _
          have hC := rowsC (m / cP (aK A)) (by omega) (fun q hq => hno q (by omega)) (lem _ (fun q hq => hno q (by omega)))
          have hR := rowC (m / cP (aK A)) (m % cP (aK A)) hx (by omega) (fun q hq => hno q (by omega)) (lem _ (fun q hq => hno q (by omega)))
          have hit := stC (m / cP (aK A)) (m % cP (aK A)) hx hy (by rw [em]; omega)
          rw [em, if_pos h2, if_pos h3.symm] at hit
          rw [em] at hR
          have hM := rM0 (nI i) m (by omega) (fun j hj hf2 => by
            have := nof_le (f := f) j
            rw [Ne, nJ_eq (by omega) (by omega)]
            exact hno j hj hf2)
          have hitM := stM m (nI i) (by omega)
          rw [if_pos h2, if_pos (by rw [h3])] at hitM
          refine ⟨nI (10 * (m / cP (aK A)) + m % cP (aK A)), σ1, τ1, ?_, ?_, f1, f2⟩
          · rw [hC, show 10000 - m / cP (aK A) = (10000 - m / cP (aK A) - 1) + 1 by omega, lp_ret (r := nI (10 * (m / cP (aK A)) + m % cP (aK A)))]
            · rw [lb_inl, cr_some]
            · show f_X2_restAt_L6 10000 (nI w) (nI o) (nI i) (nI (i - nof f (cP (aK A) * (m / cP (aK A))))) (nI (m / cP (aK A))) σ1 = _
              unfold f_X2_restAt_L6
              rw [k1.1, if_neg (by rw [nJ_le (by omega) (by omega)]; omega), hR, show 10000 - m % cP (aK A) = (10000 - m % cP (aK A) - 1) + 1 by omega, lp_ret (r := nI (10 * (m / cP (aK A)) + m % cP (aK A))) hit, lb_inl]
          · rw [hM, show 10000 - m = (10000 - m - 1) + 1 by omega, lp_ret hitM, lb_inl]
        · have hno : ∀ q, q < cP (aK A) * cP (aK A) → f q → nof f q ≠ i := fun q hq hf2 hc => h1 q (by omega) ⟨hf2, hc⟩
          have hC := rowsC (cP (aK A)) (Nat.le_refl _) hno (lem _ hno)
          have hM := rM0 (nI i) (cP (aK A) * cP (aK A)) (Nat.le_refl _) (fun j hj hf2 => by
            have := nof_le (f := f) j
            rw [Ne, nJ_eq (by omega) (by omega)]
            exact hno j hj hf2)
          refine ⟨-1, σ1, τ1, ?_, ?_, f1, f2⟩
          · rw [hC, show 10000 - cP (aK A) = (10000 - cP (aK A) - 1) + 1 by omega, lp_out (y := ())]
            · rw [lb_inr, cr_some]
            · show f_X2_restAt_L6 10000 (nI w) (nI o) (nI i) _ (nI (cP (aK A))) σ1 = _
              unfold f_X2_restAt_L6
              rw [k1.1, if_pos (by rw [nJ_le (by omega) (by omega)]; omega)]
          · rw [hM, show 10000 - cP (aK A) * cP (aK A) = (10000 - cP (aK A) * cP (aK A) - 1) + 1 by omega, lp_out (endM _ _), lb_inr, if_neg c1]
    · rw [if_neg cn, if_neg cn]
      exact ⟨_, _, _, rfl, rfl, Fr.rf, Fr.rf⟩
  · rw [t1, t2]
    exact ⟨_, _, _, rfl, rfl, Fr.rf, Fr.rf⟩
