/-! the reference: a set's day (roads gone today stand apart until the day is over), all sets' day -/
def setG (S : Sta) (G : Nat → Nat) : Sta := ((sP S, sW S, sB S, G, sC S), S.2)
def MX (K : Cty) (G : Nat → Nat) (S : Sta) (c : Nat) (τ : sgS) : Prop := ∃ T : Nat → Nat, MS K (setG S G) (τ.1 21) ∧ (∀ k, k < 12 → τ.1 24 k = nI (T k)) ∧ τ.1 0 40 = nI c ∧ (∀ k, k < cR K → sG S k = min 999 (G k + T k)) ∧ ∀ k, T k ≤ c
def goM (j k : Nat) : Prop := (j = 21 ∧ k < 34) ∨ j = 24 ∨ (j = 0 ∧ k = 40)
theorem MS_same {K : Cty} {S : Sta} {w : Nat} {g : Nat → Int32} (h : MS K (setP S w (sP S w)) g) : MS K S g := by
  obtain ⟨h1, h2⟩ := h
  refine ⟨fun q hq => ?_, h2⟩
  have := h1 q hq
  rw [this]
  show nI (if q = w then sP S w else sP S q) = _
  by_cases c : q = w
  · rw [if_pos c, c]
  · rw [if_neg c]
theorem MS_B {K : Cty} {S : Sta} {w b : Nat} {g : Nat → Int32} (ok : okK K) (hw : w < cS K) (h : MS K S g) : MS K (setB S w b) (upd g (8 + w) (nI b)) := by
  obtain ⟨hp, hr, hs4, -⟩ := ok
  obtain ⟨h1, h2, h3, h4, h5, h6, h7, h8⟩ := h
  refine ⟨fun q hq => by rw [upd_get, if_neg (by omega)]; exact h1 q hq, fun q hq => by rw [upd_get, if_neg (by omega)]; exact h2 q hq, fun q hq => ?_, fun q hq => by rw [upd_get, if_neg (by omega)]; exact h4 q hq, fun q hq => by rw [upd_get, if_neg (by omega)]; exact h5 q hq, by rw [upd_get, if_neg (by omega)]; exact h6, by rw [upd_get, if_neg (by omega)]; exact h7, by rw [upd_get, if_neg (by omega)]; exact h8⟩
  show _ = nI (if q = w then b else sB S q)
  rw [upd_get]
  by_cases c : q = w
  · rw [if_pos (by omega), if_pos c]
  · rw [if_neg (by omega), if_neg c]; exact h3 q hq
theorem MS_C {K : Cty} {S : Sta} {p : Nat} {g : Nat → Int32} (ok : okK K) (hp : p < cP K) (h : MS K S g) : MS K (calA K S p) (upd (upd g (24 + p) (nI (min 999 (sC S p + 1)))) 32 (nI (if cU K p = 0 then sK S else min 999 (sK S + 1)))) := by
  obtain ⟨hp7, hr, hs4, -⟩ := ok
  obtain ⟨h1, h2, h3, h4, h5, h6, h7, h8⟩ := h
  refine ⟨fun q hq => by rw [upd_get, if_neg (by omega), upd_get, if_neg (by omega)]; exact h1 q hq, fun q hq => by rw [upd_get, if_neg (by omega), upd_get, if_neg (by omega)]; exact h2 q hq, fun q hq => by rw [upd_get, if_neg (by omega), upd_get, if_neg (by omega)]; exact h3 q hq, fun q hq => by rw [upd_get, if_neg (by omega), upd_get, if_neg (by omega)]; exact h4 q hq, fun q hq => ?_, by rw [upd_get, if_neg (by omega), upd_get, if_neg (by omega)]; exact h6, by rw [upd_get, if_pos rfl]; rfl, by rw [upd_get, if_neg (by omega), upd_get, if_neg (by omega)]; exact h8⟩
  show _ = nI (if q = p then min 999 (sC S q + 1) else sC S q)
  rw [upd_get, if_neg (by omega), upd_get]
  by_cases c : q = p
  · rw [if_pos (by omega), if_pos c, c]
  · rw [if_neg (by omega), if_neg c]; exact h5 q hq
theorem mcallAt_ok {N p c : Nat} {K : Cty} {S : Sta} {τ : sgS} (okk : okK K) (hK : MK K τ) (h40 : τ.1 0 40 = nI c) (hS : MS K S (τ.1 21)) (hp : p < cP K) (hc : ∀ k, k < cP K → sC S k ≤ 999) (hk : sK S ≤ 999) : f_X12_callAt N (nI p) τ = some (0, sg_up (sg_up (sg_up τ 0 40 (nI (c + 1))) 21 (24 + p) (nI (min 999 (sC S p + 1)))) 21 32 (nI (if cU K p = 0 then sK S else min 999 (sK S + 1)))) := by
  have hp7 := okk.1
  have hu := okk.2.2.2.2.2.1 p hp
  have hcp := hc p hp
  obtain ⟨h1, h2, h3, h4, h5, h6, h7, h8⟩ := hS
  unfold f_X12_callAt
  rw [h40]
  by_cases c0 : cU K p = 0
  · simp (disch := omega) only [sg_cr, sg_cl, sg_lb, sg_pf, sg_pl, sg_nz, sg_nzl, sg_nar0, sg_nar1, lt_T, lt_F, le_T, le_F, eq_T, eq_F, ltL_T, ltL_F, leL_T, leL_F, eqL_T, eqL_F, Llt_T, Llt_F, Lle_T, Lle_F, Leq_T, Leq_F, n10_F, n01_F, le0_F, lt0_T, le0_T, eq0_F, lt1_F, nJ_not_neg, nJ_ne_neg, nJ_neg_lt, nJ_neg_le, nJ_le_neg, ↓reduceIte, ld_ok, st_ok, rf_ok, ld_okL, st_okL, nJ_add, nJ_addL, nJ_Ladd, nJ_mul, nJ_mulL, nJ_Lmul, up_ne, h5 p hp, min999, up_nk, h7, hK.2.2.2.2.1 p hp, Nat.add_zero]
    rw [if_pos c0]
    by_cases c1 : sK S < 999
    · rw [if_pos (by rw [nJ_ltL (by omega) (by decide)]; exact c1)]
    · rw [if_neg (by rw [nJ_ltL (by omega) (by decide)]; exact c1), show sK S = 999 by omega]; rfl
  · simp (disch := omega) only [sg_cr, sg_cl, sg_lb, sg_pf, sg_pl, sg_nz, sg_nzl, sg_nar0, sg_nar1, lt_T, lt_F, le_T, le_F, eq_T, eq_F, ltL_T, ltL_F, leL_T, leL_F, eqL_T, eqL_F, Llt_T, Llt_F, Lle_T, Lle_F, Leq_T, Leq_F, n10_F, n01_F, le0_F, lt0_T, le0_T, eq0_F, lt1_F, nJ_not_neg, nJ_ne_neg, nJ_neg_lt, nJ_neg_le, nJ_le_neg, ↓reduceIte, ld_ok, st_ok, rf_ok, ld_okL, st_okL, nJ_add, nJ_addL, nJ_Ladd, nJ_mul, nJ_mulL, nJ_Lmul, up_ne, h5 p hp, min999, up_nk, h7, hK.2.2.2.2.1 p hp]
    rw [if_neg c0]
theorem go_step {N w y c h : Nat} {K : Cty} {Y : Wys} {H G : Nat → Nat} {S : Sta} {τ : sgS} (hN : 10000 ≤ N) (okk : okK K) (oky : okY Y) (h0 : cP K ≠ 0) (hK : MK K τ) (hY : MY Y τ) (hH : ∀ r, r < cR K → τ.1 23 r = nI (H r) ∧ H r < 100) (hS : MX K G S c τ) (ok : okM K Y w y S) (hw : w < cS K) (hb : sB S w < wL Y y) (hh : h ≤ 24) :
    match goS K Y H w y S h with
    | none => f_X12_goOn_L20 N (nI w) (nI h) 1 τ = some (.inr (.inl (τ, nI h, 0)))
    | some q => q.2 ≤ 24 ∧ ∃ τ', f_X12_goOn_L20 N (nI w) (nI h) 1 τ = some (.inr (.inl (τ', nI q.2, if sB S w + 1 < wL Y y then 1 else 0))) ∧ MX K G (if sB S w + 1 < wL Y y then q.1 else setW q.1 w 0 0) (c + 1) τ' ∧ Fr goM τ τ' := by
  have hs4 := okk.2.2.1
  have hr12 := okk.2.1
  have hp7 := okk.1
  have hH24 := (okk.2.2.2.2.1 h0).2.2.2
  have hy : y < wN Y := by have := (ok.1 w hw).2.1; have := ok.2.2.2.2.2.2.1; omega
  have hwn := oky.1
  have hl := oky.2 y hy
  have hnx := hl.2.2 (sB S w) hb
  have hpw := (ok.1 w hw).1
  have hyw := ok.2.2.2.2.2.2.1
  obtain ⟨T, m1, m2, m3, m4, m5⟩ := hS
  have eP : τ.1 21 (0 + w) = nI (sP S w) := by rw [Nat.zero_add]; exact m1.1 w hw
  have eW : τ.1 21 (4 + w) = nI y := by
    have := m1.2.1 w hw
    rw [this]; show wI (sW S w) = _; rw [hyw, wI_s]
  have eB : τ.1 21 (8 + w) = nI (sB S w) := m1.2.2.1 w hw
  have eN : f_X12_nextIn N (nI w) τ = some (nI (wS Y y (sB S w))) := by
    unfold f_X12_nextIn
    simp (disch := omega) only [sg_cr, sg_cl, sg_lb, sg_pf, sg_pl, sg_nz, sg_nzl, sg_nar0, sg_nar1, lt_T, lt_F, le_T, le_F, eq_T, eq_F, ltL_T, ltL_F, leL_T, leL_F, eqL_T, eqL_F, Llt_T, Llt_F, Lle_T, Lle_F, Leq_T, Leq_F, n10_F, n01_F, le0_F, lt0_T, le0_T, eq0_F, lt1_F, nJ_not_neg, nJ_ne_neg, nJ_neg_lt, nJ_neg_le, nJ_le_neg, ↓reduceIte, ld_ok, st_ok, rf_ok, ld_okL, st_okL, nJ_add, nJ_addL, nJ_Ladd, nJ_mul, nJ_mulL, nJ_Lmul, eW, eB, (hY.2 y hy).2 (sB S w) hb]
  have hX : τ.1 21 31 = nI (sX S) := m1.2.2.2.2.2.1
  have hro := roadBetween_ok (N := N) (X := sX S) (p := sP S w) (q := wS Y y (sB S w)) hN okk hK hX hH (by omega) (by omega)
  -- behind the road: to the place, a call there
  have step : ∀ (S1 : Sta) (T1 : Nat → Nat) (τ1 : sgS) (h1 : Nat), τ1.1 21 = τ.1 21 → (∀ j, j ≠ 24 → τ1.1 j = τ.1 j) → (∀ k, k < 12 → τ1.1 24 k = nI (T1 k)) → (∀ k, k < cR K → sG S1 k = min 999 (G k + T1 k)) → (∀ k, T1 k ≤ c + 1) → MS K (setP (setG S1 G) w (wS Y y (sB S w))) (upd (τ.1 21) w (nI (wS Y y (sB S w)))) → sW S1 = sW S → sB S1 = sB S → sC S1 = sC S → S1.2 = S.2 → wS Y y (sB S w) < cP K →
      ∃ τ', f_X12_goOn_L20_B148 N (nI w) (nI h1) (nI (wS Y y (sB S w))) τ1 = some (.inr (.inl (τ', nI h1, if sB S w + 1 < wL Y y then 1 else 0))) ∧ MX K G (if sB S w + 1 < wL Y y then stp K (setP S1 w (wS Y y (sB S w))) w (wS Y y (sB S w)) else setW (stp K (setP S1 w (wS Y y (sB S w))) w (wS Y y (sB S w))) w 0 0) (c + 1) τ' ∧ Fr goM τ1 τ' := by
    intro S1 T1 τ1 h1 t1 t2 t3 t4 t5 ms sw sb sc s2 hlt
    have eB1 : sB S1 w = sB S w := by rw [sb]
    -- after place and behind
    have ms2 : MS K (setB (setP (setG S1 G) w (wS Y y (sB S w))) w (sB S w + 1)) (upd (upd (τ.1 21) w (nI (wS Y y (sB S w)))) (8 + w) (nI (sB S w + 1))) := MS_B okk hw ms
    have K2 : MK K (sg_up (sg_up τ1 21 w (nI (wS Y y (sB S w)))) 21 (8 + w) (nI (sB S w + 1))) := MK_fr hK (fun j h3 h9 => by rw [up_ne (by omega), up_ne (by omega), t2 j (by omega)]) (fun k h3 h9 => by rw [up_ne (by decide), up_ne (by decide), t2 0 (by decide)])
    have c40 : (sg_up (sg_up τ1 21 w (nI (wS Y y (sB S w)))) 21 (8 + w) (nI (sB S w + 1))).1 0 40 = nI c := by rw [up_ne (by decide), up_ne (by decide), t2 0 (by decide)]; exact m3
    have r21 : (sg_up (sg_up τ1 21 w (nI (wS Y y (sB S w)))) 21 (8 + w) (nI (sB S w + 1))).1 21 = upd (upd (τ.1 21) w (nI (wS Y y (sB S w)))) (8 + w) (nI (sB S w + 1)) := by rw [row21, row21, t1]
    have ca := mcallAt_ok (N := N) okk K2 c40 (by rw [r21]; exact ms2) hlt (fun k hk => by show sC S1 k ≤ 999; rw [sc]; exact ok.2.2.2.1 k hk) (by show S1.2.2.1 ≤ 999; rw [s2]; exact ok.2.2.2.2.2.1)
    have ms3 := MS_C okk hlt ms2
    generalize hv : nI (if cU K (wS Y y (sB S w)) = 0 then sK (setB (setP (setG S1 G) w (wS Y y (sB S w))) w (sB S w + 1)) else min 999 (sK (setB (setP (setG S1 G) w (wS Y y (sB S w))) w (sB S w + 1)) + 1)) = cv at ca ms3
    generalize hu : nI (min 999 (sC (setB (setP (setG S1 G) w (wS Y y (sB S w))) w (sB S w + 1)) (wS Y y (sB S w)) + 1)) = cu at ca ms3
    have r21c : (sg_up (sg_up (sg_up (sg_up (sg_up τ1 21 w (nI (wS Y y (sB S w)))) 21 (8 + w) (nI (sB S w + 1))) 0 40 (nI (c + 1))) 21 (24 + wS Y y (sB S w)) cu) 21 32 cv).1 21 = upd (upd (upd (upd (τ.1 21) w (nI (wS Y y (sB S w)))) (8 + w) (nI (sB S w + 1))) (24 + wS Y y (sB S w)) cu) 32 cv := by rw [row21, row21, up_ne (by decide), r21]
    have q8 : (upd (upd (upd (upd (τ.1 21) w (nI (wS Y y (sB S w)))) (8 + w) (nI (sB S w + 1))) (24 + wS Y y (sB S w)) cu) 32 cv) (8 + w) = nI (sB S w + 1) := by rw [upd_get, if_neg (by omega), upd_get, if_neg (by omega), upd_get, if_pos rfl]
    have q4 : (upd (upd (upd (upd (τ.1 21) w (nI (wS Y y (sB S w)))) (8 + w) (nI (sB S w + 1))) (24 + wS Y y (sB S w)) cu) 32 cv) (4 + w) = nI y := by rw [upd_get, if_neg (by omega), upd_get, if_neg (by omega), upd_get, if_neg (by omega), upd_get, if_neg (by omega)]; exact eW
    have q20 : (sg_up (sg_up (sg_up (sg_up (sg_up τ1 21 w (nI (wS Y y (sB S w)))) 21 (8 + w) (nI (sB S w + 1))) 0 40 (nI (c + 1))) 21 (24 + wS Y y (sB S w)) cu) 21 32 cv).1 20 = τ.1 20 := by rw [up_ne (by decide), up_ne (by decide), up_ne (by decide), up_ne (by decide), up_ne (by decide), t2 20 (by decide)]
    have q24 : (sg_up (sg_up (sg_up (sg_up (sg_up τ1 21 w (nI (wS Y y (sB S w)))) 21 (8 + w) (nI (sB S w + 1))) 0 40 (nI (c + 1))) 21 (24 + wS Y y (sB S w)) cu) 21 32 cv).1 24 = τ1.1 24 := by rw [up_ne (by decide), up_ne (by decide), up_ne (by decide), up_ne (by decide), up_ne (by decide)]
    have q40 : (sg_up (sg_up (sg_up (sg_up (sg_up τ1 21 w (nI (wS Y y (sB S w)))) 21 (8 + w) (nI (sB S w + 1))) 0 40 (nI (c + 1))) 21 (24 + wS Y y (sB S w)) cu) 21 32 cv).1 0 40 = nI (c + 1) := by rw [up_ne (by decide), up_ne (by decide), up_at]
    have fr : Fr goM τ1 (sg_up (sg_up (sg_up (sg_up (sg_up τ1 21 w (nI (wS Y y (sB S w)))) 21 (8 + w) (nI (sB S w + 1))) 0 40 (nI (c + 1))) 21 (24 + wS Y y (sB S w)) cu) 21 32 cv) := Fr.tr (Fr.tr (Fr.tr (Fr.tr (Fr.up (Or.inl ⟨rfl, by omega⟩)) (Fr.up (Or.inl ⟨rfl, by omega⟩))) (Fr.up (Or.inr (Or.inr ⟨rfl, rfl⟩)))) (Fr.up (Or.inl ⟨rfl, by omega⟩))) (Fr.up (Or.inl ⟨rfl, by decide⟩))
    have ev0 : f_X12_goOn_L20_B148 N (nI w) (nI h1) (nI (wS Y y (sB S w))) τ1 = (if nI (wL Y y) ≤ nI (sB S w + 1) then f_X12_goOn_L20_B207 N (nI w) (nI h1) 0 (sg_up (sg_up (sg_up (sg_up (sg_up τ1 21 w (nI (wS Y y (sB S w)))) 21 (8 + w) (nI (sB S w + 1))) 0 40 (nI (c + 1))) 21 (24 + wS Y y (sB S w)) cu) 21 32 cv) else f_X12_goOn_L20_B207 N (nI w) (nI h1) 1 (sg_up (sg_up (sg_up (sg_up (sg_up τ1 21 w (nI (wS Y y (sB S w)))) 21 (8 + w) (nI (sB S w + 1))) 0 40 (nI (c + 1))) 21 (24 + wS Y y (sB S w)) cu) 21 32 cv)) := by
      unfold f_X12_goOn_L20_B148
      rw [nJ_Ladd, Nat.zero_add]
      simp (disch := omega) only [st_ok, ld_ok, nJ_Ladd]
      rw [up_nk (by omega), t1, eB, nJ_addL, ca]
      simp (disch := omega) only [sg_cl, ld_ok]
      rw [r21c, q8, q4]
      simp (disch := omega) only [ld_ok]
      rw [q20, (hY.2 y hy).1]
    generalize (sg_up (sg_up (sg_up (sg_up (sg_up τ1 21 w (nI (wS Y y (sB S w)))) 21 (8 + w) (nI (sB S w + 1))) 0 40 (nI (c + 1))) 21 (24 + wS Y y (sB S w)) cu) 21 32 cv) = τ5 at *
    rw [ev0]
    have ms4 : MS K (setG (stp K (setP S1 w (wS Y y (sB S w))) w (wS Y y (sB S w))) G) (τ5.1 21) := by
      rw [r21c]
      unfold stp
      rw [show sB (setP S1 w (wS Y y (sB S w))) w = sB S w from eB1]
      exact ms3
    by_cases cb : sB S w + 1 < wL Y y
    · rw [if_neg (by rw [nJ_le (by omega) (by omega)]; omega), if_pos cb, if_pos cb]
      refine ⟨τ5, ?_, ⟨T1, ms4, fun k hk => by rw [q24]; exact t3 k hk, q40, t4, t5⟩, fr⟩
      unfold f_X12_goOn_L20_B207
      rw [if_neg (by decide)]
    · rw [if_pos (by rw [nJ_le (by omega) (by omega)]; omega), if_neg cb, if_neg cb]
      refine ⟨sg_up (sg_up τ5 21 (4 + w) (wI 0)) 21 (8 + w) (nI 0), ?_, ⟨T1, ?_, fun k hk => by rw [up_ne (by decide), up_ne (by decide), q24]; exact t3 k hk, by rw [up_ne (by decide), up_ne (by decide)]; exact q40, t4, t5⟩, fr.tr (Fr.tr (Fr.up (Or.inl ⟨rfl, by omega⟩)) (Fr.up (Or.inl ⟨rfl, by omega⟩)))⟩
      · unfold f_X12_goOn_L20_B207 f_X12_dropWay
        rw [if_pos rfl]
        simp (disch := omega) only [sg_cr, sg_cl, sg_lb, sg_pf, sg_pl, sg_nz, sg_nzl, sg_nar0, sg_nar1, lt_T, lt_F, le_T, le_F, eq_T, eq_F, ltL_T, ltL_F, leL_T, leL_F, eqL_T, eqL_F, Llt_T, Llt_F, Lle_T, Lle_F, Leq_T, Leq_F, n10_F, n01_F, le0_F, lt0_T, le0_T, eq0_F, lt1_F, nJ_not_neg, nJ_ne_neg, nJ_neg_lt, nJ_neg_le, nJ_le_neg, ↓reduceIte, ld_ok, st_ok, rf_ok, ld_okL, st_okL, nJ_add, nJ_addL, nJ_Ladd, nJ_mul, nJ_mulL, nJ_Lmul]
        rfl
      · rw [row21, row21]
        exact MS_W (w := w) (y := 0) (b := 0) okk hw ms4
  have hlt := goS_lt (H := H) (h := h) okk ok hw
  unfold goS at hlt ⊢
  by_cases c1 : wS Y y (sB S w) = sP S w
  · rw [if_pos c1]
    have ms0 : MS K (setP (setG S G) w (wS Y y (sB S w))) (upd (τ.1 21) w (nI (wS Y y (sB S w)))) := MS_P okk hw m1
    obtain ⟨τ', e1, e2, e3⟩ := step S T τ h rfl (fun _ _ => rfl) m2 m4 (fun k => by have := m5 k; omega) ms0 rfl rfl rfl rfl (by rw [c1]; exact hpw)
    have sm : setP S w (wS Y y (sB S w)) = S := by
      rw [c1]
      show ((fun q => if q = w then sP S w else sP S q, S.1.2), S.2) = S
      have : (fun q => if q = w then sP S w else sP S q) = S.1.1 := funext fun q => by
        by_cases cq : q = w
        · rw [if_pos cq, cq]; rfl
        · rw [if_neg cq]; rfl
      rw [this]
    rw [sm] at e2
    refine ⟨hh, τ', ?_, e2, e3⟩
    unfold f_X12_goOn_L20 f_X12_goOn_L20_B62 f_X12_goOn_L20_B106 f_X12_goOn_L20_B129
    simp (disch := omega) only [sg_cr, sg_cl, sg_lb, sg_pf, sg_pl, sg_nz, sg_nzl, sg_nar0, sg_nar1, lt_T, lt_F, le_T, le_F, eq_T, eq_F, ltL_T, ltL_F, leL_T, leL_F, eqL_T, eqL_F, Llt_T, Llt_F, Lle_T, Lle_F, Leq_T, Leq_F, n10_F, n01_F, le0_F, lt0_T, le0_T, eq0_F, lt1_F, nJ_not_neg, nJ_ne_neg, nJ_neg_lt, nJ_neg_le, nJ_le_neg, ↓reduceIte, ld_ok, st_ok, rf_ok, ld_okL, st_okL, nJ_add, nJ_addL, nJ_Ladd, nJ_mul, nJ_mulL, nJ_Lmul, eN, eP, Nat.add_zero]
    exact e1
  · rw [if_neg c1] at hlt ⊢
    by_cases c2 : sBt K H (sX S) (sP S w) (wS Y y (sB S w)) (cR K) = 0 ∨ cH K < h + H (sBt K H (sX S) (sP S w) (wS Y y (sB S w)) (cR K) - 1)
    · rw [if_pos c2]
      show f_X12_goOn_L20 N (nI w) (nI h) 1 τ = some (.inr (.inl (τ, nI h, 0)))
      unfold f_X12_goOn_L20 f_X12_goOn_L20_B62 f_X12_goOn_L20_B106
      simp (disch := omega) only [sg_cr, sg_cl, sg_lb, sg_pf, sg_pl, sg_nz, sg_nzl, sg_nar0, sg_nar1, lt_T, lt_F, le_T, le_F, eq_T, eq_F, ltL_T, ltL_F, leL_T, leL_F, eqL_T, eqL_F, Llt_T, Llt_F, Lle_T, Lle_F, Leq_T, Leq_F, n10_F, n01_F, le0_F, lt0_T, le0_T, eq0_F, lt1_F, nJ_not_neg, nJ_ne_neg, nJ_neg_lt, nJ_neg_le, nJ_le_neg, ↓reduceIte, ld_ok, st_ok, rf_ok, ld_okL, st_okL, nJ_add, nJ_addL, nJ_Ladd, nJ_mul, nJ_mulL, nJ_Lmul, eN, eP, hro]
      by_cases c3 : sBt K H (sX S) (sP S w) (wS Y y (sB S w)) (cR K) = 0
      · rw [c3, wI_0, if_pos rfl]
      · obtain ⟨b, hb2⟩ : ∃ b, sBt K H (sX S) (sP S w) (wS Y y (sB S w)) (cR K) = b + 1 := ⟨sBt K H (sX S) (sP S w) (wS Y y (sB S w)) (cR K) - 1, by omega⟩
        have hle := sBt_le (K := K) (H := H) (X := sX S) (p := sP S w) (q := wS Y y (sB S w)) (cR K)
        rw [hb2] at c2 hle ⊢
        have c4 := c2.resolve_left (by omega)
        rw [Nat.add_sub_cancel] at c4
        have e5 := hH b (by omega)
        simp (disch := omega) only [sg_cr, sg_cl, sg_lb, sg_pf, sg_pl, sg_nz, sg_nzl, sg_nar0, sg_nar1, lt_T, lt_F, le_T, le_F, eq_T, eq_F, ltL_T, ltL_F, leL_T, leL_F, eqL_T, eqL_F, Llt_T, Llt_F, Lle_T, Lle_F, Leq_T, Leq_F, n10_F, n01_F, le0_F, lt0_T, le0_T, eq0_F, lt1_F, nJ_not_neg, nJ_ne_neg, nJ_neg_lt, nJ_neg_le, nJ_le_neg, ↓reduceIte, ld_ok, st_ok, rf_ok, ld_okL, st_okL, nJ_add, nJ_addL, nJ_Ladd, nJ_mul, nJ_mulL, nJ_Lmul, wI_s, e5.1, (hK.2.2.2.1 h0).1]
    · rw [if_neg c2] at hlt ⊢
      have hlt := hlt (fun z => by cases z)
      have c3 : sBt K H (sX S) (sP S w) (wS Y y (sB S w)) (cR K) ≠ 0 := fun z => c2 (Or.inl z)
      have c4 : ¬ cH K < h + H (sBt K H (sX S) (sP S w) (wS Y y (sB S w)) (cR K) - 1) := fun z => c2 (Or.inr z)
      have hle := sBt_le (K := K) (H := H) (X := sX S) (p := sP S w) (q := wS Y y (sB S w)) (cR K)
      obtain ⟨b, hb2⟩ : ∃ b, sBt K H (sX S) (sP S w) (wS Y y (sB S w)) (cR K) = b + 1 := ⟨sBt K H (sX S) (sP S w) (wS Y y (sB S w)) (cR K) - 1, by omega⟩
      rw [hb2] at c4 hle hro ⊢
      rw [Nat.add_sub_cancel] at c4 ⊢
      have e5 := hH b (by omega)
      have ms0 : MS K (setP (setG (addG S b) G) w (wS Y y (sB S w))) (upd (τ.1 21) w (nI (wS Y y (sB S w)))) := MS_P okk hw m1
      obtain ⟨τ', e1, e2, e3⟩ := step (addG S b) (fun k => if k = b then T k + 1 else T k) (sg_up τ 24 b (nI (T b + 1))) (h + H b) (up_ne (by decide)) (fun j hj => up_ne hj) (fun k hk => by
        show _ = nI (if k = b then T k + 1 else T k)
        rw [up_get]
        by_cases ck : k = b
        · rw [if_pos ⟨rfl, ck⟩, if_pos ck, ck]
        · rw [if_neg (fun z => ck z.2), if_neg ck]; exact m2 k hk) (fun k hk => by
        show (if k = b then min 999 (sG S k + 1) else sG S k) = min 999 (G k + (if k = b then T k + 1 else T k))
        have := m4 k hk
        by_cases ck : k = b
        · rw [if_pos ck, if_pos ck]; omega
        · rw [if_neg ck, if_neg ck]; exact this) (fun k => by
        show (if k = b then T k + 1 else T k) ≤ c + 1
        have := m5 k
        by_cases ck : k = b
        · rw [if_pos ck]; omega
        · rw [if_neg ck]; omega) ms0 rfl rfl rfl rfl hlt
      refine ⟨by show h + H b ≤ 24; omega, τ', ?_, e2, Fr.tr (Fr.up (Or.inr (Or.inl rfl))) e3⟩
      unfold f_X12_goOn_L20 f_X12_goOn_L20_B62 f_X12_goOn_L20_B106 f_X12_goOn_L20_B129
      simp (disch := omega) only [sg_cr, sg_cl, sg_lb, sg_pf, sg_pl, sg_nz, sg_nzl, sg_nar0, sg_nar1, lt_T, lt_F, le_T, le_F, eq_T, eq_F, ltL_T, ltL_F, leL_T, leL_F, eqL_T, eqL_F, Llt_T, Llt_F, Lle_T, Lle_F, Leq_T, Leq_F, n10_F, n01_F, le0_F, lt0_T, le0_T, eq0_F, lt1_F, nJ_not_neg, nJ_ne_neg, nJ_neg_lt, nJ_neg_le, nJ_le_neg, ↓reduceIte, ld_ok, st_ok, rf_ok, ld_okL, st_okL, nJ_add, nJ_addL, nJ_Ladd, nJ_mul, nJ_mulL, nJ_Lmul, eN, eP, hro, wI_s, e5.1, (hK.2.2.2.1 h0).1, m2 b (by omega)]
      exact e1
