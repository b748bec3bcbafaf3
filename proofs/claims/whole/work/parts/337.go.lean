/-! A DAY OF ONE SET -/
def addG (S : Sta) (r : Nat) : Sta := ((sP S, sW S, sB S, fun k => if k = r then min 999 (sG S k + 1) else sG S k, sC S), S.2)
def calA (K : Cty) (S : Sta) (p : Nat) : Sta := ((sP S, sW S, sB S, sG S, fun k => if k = p then min 999 (sC S k + 1) else sC S k), sX S, (if cU K p = 0 then sK S else min 999 (sK S + 1)), sD S)
def setB (S : Sta) (w b : Nat) : Sta := ((sP S, sW S, fun q => if q = w then b else sB S q, sG S, sC S), S.2)
def stp (K : Cty) (S : Sta) (w p : Nat) : Sta := setB (calA K S p) w (sB S w + 1)
/-- one stop on: none where it stays for the day -/
def goS (K : Cty) (Y : Wys) (H : Nat → Nat) (w y : Nat) (S : Sta) (h : Nat) : Option (Sta × Nat) := if wS Y y (sB S w) = sP S w then some (stp K S w (wS Y y (sB S w)), h) else if sBt K H (sX S) (sP S w) (wS Y y (sB S w)) (cR K) = 0 ∨ cH K < h + H (sBt K H (sX S) (sP S w) (wS Y y (sB S w)) (cR K) - 1) then none else some (stp K (setP (addG S (sBt K H (sX S) (sP S w) (wS Y y (sB S w)) (cR K) - 1)) w (wS Y y (sB S w))) w (wS Y y (sB S w)), h + H (sBt K H (sX S) (sP S w) (wS Y y (sB S w)) (cR K) - 1))
def goD (K : Cty) (Y : Wys) (H : Nat → Nat) (w y : Nat) : Nat → Sta → Nat → Nat → Sta × Nat
  | 0, S, _, c => (S, c)
  | n + 1, S, h, c => if sB S w < wL Y y then (match goS K Y H w y S h with
    | none => (S, c)
    | some q => goD K Y H w y n q.1 q.2 (c + 1)) else (setW S w 0 0, c)
/-- a state in which set w is on its way y just now -/
def okM (K : Cty) (Y : Wys) (w y : Nat) (S : Sta) : Prop := (∀ v, v < cS K → sP S v < cP K ∧ sW S v ≤ wN Y ∧ (sW S v = 0 → sB S v = 0) ∧ (v ≠ w → sW S v ≠ 0 → 1 ≤ sB S v ∧ sB S v < wL Y (sW S v - 1))) ∧ (∀ v, cS K ≤ v → v < 4 → sW S v = 0) ∧ (∀ k, k < cR K → sG S k ≤ 999) ∧ (∀ k, k < cP K → sC S k ≤ 999) ∧ sX S < 2 ^ cR K ∧ sK S ≤ 999 ∧ sW S w = y + 1 ∧ 1 ≤ sB S w ∧ sB S w ≤ wL Y y
theorem okM_of {K : Cty} {Y : Wys} {S : Sta} {w y : Nat} (ok : okS K Y S) (hw : w < cS K) (e : sW S w = y + 1) : okM K Y w y S := by
  have h := (ok.1 w hw).2.2.2 (by omega)
  rw [e, Nat.add_sub_cancel] at h
  exact ⟨fun v hv => ⟨(ok.1 v hv).1, (ok.1 v hv).2.1, (ok.1 v hv).2.2.1, fun _ => (ok.1 v hv).2.2.2⟩, ok.2.1, ok.2.2.1, ok.2.2.2.1, ok.2.2.2.2.1, ok.2.2.2.2.2, e, h.1, by omega⟩
theorem okM_to {K : Cty} {Y : Wys} {S : Sta} {w y : Nat} (ok : okM K Y w y S) (h : sB S w < wL Y y) : okS K Y S := by
  obtain ⟨h1, h2, h3, h4, h5, h6, h7, h8, h9⟩ := ok
  refine ⟨fun v hv => ⟨(h1 v hv).1, (h1 v hv).2.1, (h1 v hv).2.2.1, ?_⟩, h2, h3, h4, h5, h6⟩
  by_cases c : v = w
  · intro _; rw [c, h7, Nat.add_sub_cancel]; exact ⟨h8, h⟩
  · exact (h1 v hv).2.2.2 c
theorem okM_drop {K : Cty} {Y : Wys} {S : Sta} {w y : Nat} (ok : okM K Y w y S) : okS K Y (setW S w 0 0) := by
  obtain ⟨h1, h2, h3, h4, h5, h6, h7, h8, h9⟩ := ok
  refine ⟨fun v hv => ⟨(h1 v hv).1, ?_, ?_, ?_⟩, fun v a b => ?_, h3, h4, h5, h6⟩
  · show (if v = w then 0 else sW S v) ≤ _
    by_cases c : v = w
    · rw [if_pos c]; omega
    · rw [if_neg c]; exact (h1 v hv).2.1
  · show (if v = w then 0 else sW S v) = 0 → (if v = w then 0 else sB S v) = 0
    by_cases c : v = w
    · rw [if_pos c, if_pos c]; intro _; rfl
    · rw [if_neg c, if_neg c]; exact (h1 v hv).2.2.1
  · show (if v = w then 0 else sW S v) ≠ 0 → 1 ≤ (if v = w then 0 else sB S v) ∧ (if v = w then 0 else sB S v) < wL Y ((if v = w then 0 else sW S v) - 1)
    by_cases c : v = w
    · rw [if_pos c]; intro z; exact absurd rfl z
    · rw [if_neg c, if_neg c]; exact (h1 v hv).2.2.2 c
  · show (if v = w then 0 else sW S v) = 0
    by_cases c : v = w
    · rw [if_pos c]
    · rw [if_neg c]; exact h2 v a b
theorem okM_stp {K : Cty} {Y : Wys} {S : Sta} {w y p : Nat} (ok : okM K Y w y S) (h : sB S w < wL Y y) : okM K Y w y (stp K S w p) := by
  obtain ⟨h1, h2, h3, h4, h5, h6, h7, h8, h9⟩ := ok
  refine ⟨fun v hv => ⟨(h1 v hv).1, (h1 v hv).2.1, ?_, ?_⟩, h2, h3, fun k hk => ?_, h5, ?_, h7, ?_, ?_⟩
  · show sW S v = 0 → (if v = w then sB S w + 1 else sB S v) = 0
    by_cases c : v = w
    · rw [c, h7]; intro z; omega
    · rw [if_neg c]; exact (h1 v hv).2.2.1
  · show v ≠ w → sW S v ≠ 0 → 1 ≤ (if v = w then sB S w + 1 else sB S v) ∧ (if v = w then sB S w + 1 else sB S v) < _
    intro c
    rw [if_neg c]
    exact (h1 v hv).2.2.2 c
  · show (if k = p then min 999 (sC S k + 1) else sC S k) ≤ 999
    by_cases c : k = p
    · rw [if_pos c]; omega
    · rw [if_neg c]; exact h4 k hk
  · show (if cU K p = 0 then sK S else min 999 (sK S + 1)) ≤ 999
    by_cases c : cU K p = 0
    · rw [if_pos c]; exact h6
    · rw [if_neg c]; omega
  · show 1 ≤ (if w = w then sB S w + 1 else sB S w)
    rw [if_pos rfl]; omega
  · show (if w = w then sB S w + 1 else sB S w) ≤ _
    rw [if_pos rfl]; omega
theorem okM_mov {K : Cty} {Y : Wys} {S : Sta} {w y p r : Nat} (ok : okM K Y w y S) (hp : p < cP K) : okM K Y w y (setP (addG S r) w p) := by
  obtain ⟨h1, h2, h3, h4, h5, h6, h7, h8, h9⟩ := ok
  refine ⟨fun v hv => ⟨?_, (h1 v hv).2.1, (h1 v hv).2.2.1, (h1 v hv).2.2.2⟩, h2, fun k hk => ?_, h4, h5, h6, h7, h8, h9⟩
  · show (if v = w then p else sP S v) < _
    by_cases c : v = w
    · rw [if_pos c]; exact hp
    · rw [if_neg c]; exact (h1 v hv).1
  · show (if k = r then min 999 (sG S k + 1) else sG S k) ≤ 999
    by_cases c : k = r
    · rw [if_pos c]; omega
    · rw [if_neg c]; exact h3 k hk
theorem btw_lt {K : Cty} {r p q : Nat} (okk : okK K) (hr : r < cR K) (h : btw K r p q = true) : q < cP K := by
  have hc := okk.2.2.2.2.2.2.1 r hr
  unfold btw at h
  rw [decide_eq_true_eq] at h
  omega
/-- where one stop on ends -/
theorem goS_lt {K : Cty} {Y : Wys} {H : Nat → Nat} {w y h : Nat} {S : Sta} (okk : okK K) (ok : okM K Y w y S) (hw : w < cS K) (hn : goS K Y H w y S h ≠ none) : wS Y y (sB S w) < cP K := by
  unfold goS at hn
  by_cases c : wS Y y (sB S w) = sP S w
  · rw [c]; exact (ok.1 w hw).1
  · rw [if_neg c] at hn
    by_cases c2 : sBt K H (sX S) (sP S w) (wS Y y (sB S w)) (cR K) = 0 ∨ cH K < h + H (sBt K H (sX S) (sP S w) (wS Y y (sB S w)) (cR K) - 1)
    · rw [if_pos c2] at hn; exact absurd rfl hn
    · have h1 : sBt K H (sX S) (sP S w) (wS Y y (sB S w)) (cR K) ≠ 0 := fun z => c2 (Or.inl z)
      have h2 := sBt_le (K := K) (H := H) (X := sX S) (p := sP S w) (q := wS Y y (sB S w)) (cR K)
      exact btw_lt okk (by omega) (sBt_is _ h1).2
theorem goS_ok {K : Cty} {Y : Wys} {H : Nat → Nat} {w y h : Nat} {S : Sta} {q : Sta × Nat} (okk : okK K) (ok : okM K Y w y S) (hw : w < cS K) (hb : sB S w < wL Y y) (hq : goS K Y H w y S h = some q) : okM K Y w y q.1 ∧ sB q.1 w = sB S w + 1 ∧ sX q.1 = sX S ∧ sD q.1 = sD S := by
  have hlt := goS_lt (H := H) (h := h) okk ok hw (by rw [hq]; exact fun z => by cases z)
  unfold goS at hq
  have e0 : ∀ S' : Sta, sB S' w = sB S w → sB (stp K S' w (wS Y y (sB S w))) w = sB S w + 1 := by
    intro S' e
    show (if w = w then sB S' w + 1 else sB S' w) = _
    rw [if_pos rfl, e]
  by_cases c : wS Y y (sB S w) = sP S w
  · rw [if_pos c] at hq
    cases hq
    exact ⟨okM_stp ok hb, e0 S rfl, rfl, rfl⟩
  · rw [if_neg c] at hq
    by_cases c2 : sBt K H (sX S) (sP S w) (wS Y y (sB S w)) (cR K) = 0 ∨ cH K < h + H (sBt K H (sX S) (sP S w) (wS Y y (sB S w)) (cR K) - 1)
    · rw [if_pos c2] at hq; cases hq
    · rw [if_neg c2] at hq
      cases hq
      exact ⟨okM_stp (okM_mov ok hlt) hb, e0 _ rfl, rfl, rfl⟩
theorem goD_ok {K : Cty} {Y : Wys} {H : Nat → Nat} {w y : Nat} (okk : okK K) (hw : w < cS K) : ∀ (n : Nat) (S : Sta) (h c : Nat), okM K Y w y S → wL Y y + 1 ≤ sB S w + n → okS K Y (goD K Y H w y n S h c).1 ∧ sX (goD K Y H w y n S h c).1 = sX S ∧ sD (goD K Y H w y n S h c).1 = sD S ∧ (goD K Y H w y n S h c).2 ≤ c + n := by
  intro n
  induction n with
  | zero => intro S h c ok hn; have := ok.2.2.2.2.2.2.2.2; omega
  | succ n ih =>
    intro S h c ok hn
    show okS K Y (if sB S w < wL Y y then (match goS K Y H w y S h with | none => (S, c) | some q => goD K Y H w y n q.1 q.2 (c + 1)) else (setW S w 0 0, c)).1 ∧ sX (if sB S w < wL Y y then (match goS K Y H w y S h with | none => (S, c) | some q => goD K Y H w y n q.1 q.2 (c + 1)) else (setW S w 0 0, c)).1 = sX S ∧ sD (if sB S w < wL Y y then (match goS K Y H w y S h with | none => (S, c) | some q => goD K Y H w y n q.1 q.2 (c + 1)) else (setW S w 0 0, c)).1 = sD S ∧ (if sB S w < wL Y y then (match goS K Y H w y S h with | none => (S, c) | some q => goD K Y H w y n q.1 q.2 (c + 1)) else (setW S w 0 0, c)).2 ≤ c + (n + 1)
    by_cases hb : sB S w < wL Y y
    · rw [if_pos hb]
      cases hq : goS K Y H w y S h with
      | none => exact ⟨okM_to ok hb, rfl, rfl, by show c ≤ _; omega⟩
      | some q =>
        obtain ⟨o1, o2, o3, o4⟩ := goS_ok okk ok hw hb hq
        obtain ⟨i1, i2, i3, i4⟩ := ih q.1 q.2 (c + 1) o1 (by omega)
        exact ⟨i1, i2.trans o3, i3.trans o4, by show (goD K Y H w y n q.1 q.2 (c + 1)).2 ≤ _; omega⟩
    · rw [if_neg hb]
      exact ⟨okM_drop ok, rfl, rfl, by show c ≤ _; omega⟩
/-! the class's cells -/
theorem min999 {a : Nat} (h : a ≤ 999) : (if nI (a + 1) < 999 then nI (a + 1) else 999) = nI (min 999 (a + 1)) := by
  by_cases c : a + 1 < 999
  · rw [if_pos (by rw [nJ_ltL (by omega) (by decide)]; exact c), Nat.min_eq_right (by omega)]
  · rw [if_neg (by rw [nJ_ltL (by omega) (by decide)]; exact c), Nat.min_eq_left (by omega)]; rfl
theorem CS_G {K : Cty} {S : Sta} {o r : Nat} {σ : sgS} (h : CS K S o σ) : CS K (addG S r) o (sg_up σ (o + 4) r (nI (min 999 (sG S r + 1)))) := by
  obtain ⟨h1, h2, h3, h4, h5, h6, h7, h8⟩ := h
  refine ⟨?_, ?_, ?_, fun q hq => ?_, ?_, ?_, ?_, ?_⟩
  · rw [up_ne (by omega)]; exact h1
  · rw [up_ne (by omega)]; exact h2
  · rw [up_ne (by omega)]; exact h3
  · show _ = nI (if q = r then min 999 (sG S q + 1) else sG S q)
    rw [up_get]
    by_cases c : q = r
    · rw [if_pos ⟨rfl, c⟩, if_pos c, c]
    · rw [if_neg (fun z => c z.2), if_neg c]; exact h4 q hq
  · rw [up_ne (by omega)]; exact h5
  · rw [up_ne (by omega)]; exact h6
  · rw [up_ne (by omega)]; exact h7
  · rw [up_ne (by omega)]; exact h8
theorem CS_B {K : Cty} {S : Sta} {o w b : Nat} {σ : sgS} (h : CS K S o σ) : CS K (setB S w b) o (sg_up σ (o + 3) w (nI b)) := by
  obtain ⟨h1, h2, h3, h4, h5, h6, h7, h8⟩ := h
  refine ⟨?_, ?_, fun q hq => ?_, ?_, ?_, ?_, ?_, ?_⟩
  · rw [up_ne (by omega)]; exact h1
  · rw [up_ne (by omega)]; exact h2
  · show _ = nI (if q = w then b else sB S q)
    rw [up_get]
    by_cases c : q = w
    · rw [if_pos ⟨rfl, c⟩, if_pos c]
    · rw [if_neg (fun z => c z.2), if_neg c]; exact h3 q hq
  · rw [up_ne (by omega)]; exact h4
  · rw [up_ne (by omega)]; exact h5
  · rw [up_ne (by omega)]; exact h6
  · rw [up_ne (by omega)]; exact h7
  · rw [up_ne (by omega)]; exact h8
theorem callAt_ok {N o p : Nat} {K : Cty} {S : Sta} {σ : sgS} (okk : okK K) (hK : CK K σ) (ho : 37 ≤ o) (hS : CS K S o σ) (hp : p < cP K) (hc : ∀ k, k < cP K → sC S k ≤ 999) (hk : sK S ≤ 999) : ∃ σ', f_X1_callAt N (nI p) o σ = some (0, σ') ∧ CS K (calA K S p) o σ' ∧ Fr (pb o (o + 5)) σ σ' := by
  have hp7 := okk.1
  have hu := okk.2.2.2.2.2.1 p hp
  obtain ⟨h1, h2, h3, h4, h5, h6, h7, h8⟩ := hS
  have hcp := hc p hp
  unfold f_X1_callAt
  rw [hasPlace_y hK.1 hp (by omega)]
  simp (disch := omega) only [sg_cr, sg_cl, sg_lb, sg_pf, sg_pl, sg_nz, sg_nzl, sg_nar0, sg_nar1, lt_T, lt_F, le_T, le_F, eq_T, eq_F, ltL_T, ltL_F, leL_T, leL_F, eqL_T, eqL_F, Llt_T, Llt_F, Lle_T, Lle_F, Leq_T, Leq_F, n10_F, n01_F, le0_F, lt0_T, le0_T, eq0_F, lt1_F, nJ_not_neg, nJ_ne_neg, nJ_neg_lt, nJ_neg_le, nJ_le_neg, ↓reduceIte, ld_ok, st_ok, rf_ok, ld_okL, st_okL, nJ_add, nJ_addL, nJ_Ladd, nJ_mul, nJ_mulL, nJ_Lmul, h5 p hp, min999, up_ne, hK.2.2.2.2.1 p hp, h7]
  have g5 : ∀ q, q < cP K → (sg_up σ (o + 5) p (nI (min 999 (sC S p + 1)))).1 (o + 5) q = nI (if q = p then min 999 (sC S q + 1) else sC S q) := by
    intro q hq
    rw [up_get]
    by_cases c : q = p
    · rw [if_pos ⟨rfl, c⟩, if_pos c, c]
    · rw [if_neg (fun z => c z.2), if_neg c]; exact h5 q hq
  by_cases c0 : cU K p = 0
  · simp (disch := omega) only [sg_cr, sg_cl, sg_lb, sg_pf, sg_pl, sg_nz, sg_nzl, sg_nar0, sg_nar1, lt_T, lt_F, le_T, le_F, eq_T, eq_F, ltL_T, ltL_F, leL_T, leL_F, eqL_T, eqL_F, Llt_T, Llt_F, Lle_T, Lle_F, Leq_T, Leq_F, n10_F, n01_F, le0_F, lt0_T, le0_T, eq0_F, lt1_F, nJ_not_neg, nJ_ne_neg, nJ_neg_lt, nJ_neg_le, nJ_le_neg, ↓reduceIte, ld_ok, st_ok, rf_ok, ld_okL, st_okL, nJ_add, nJ_addL, nJ_Ladd, nJ_mul, nJ_mulL, nJ_Lmul]
    refine ⟨_, rfl, ⟨?_, ?_, ?_, ?_, g5, ?_, ?_, ?_⟩, Fr.up (by unfold pb; omega)⟩
    · rw [up_ne (by omega)]; exact h1
    · rw [up_ne (by omega)]; exact h2
    · rw [up_ne (by omega)]; exact h3
    · rw [up_ne (by omega)]; exact h4
    · rw [up_ne (by omega)]; exact h6
    · show _ = nI (if cU K p = 0 then sK S else _)
      rw [up_ne (by omega), if_pos c0]; exact h7
    · rw [up_ne (by omega)]; exact h8
  · simp (disch := omega) only [sg_cr, sg_cl, sg_lb, sg_pf, sg_pl, sg_nz, sg_nzl, sg_nar0, sg_nar1, lt_T, lt_F, le_T, le_F, eq_T, eq_F, ltL_T, ltL_F, leL_T, leL_F, eqL_T, eqL_F, Llt_T, Llt_F, Lle_T, Lle_F, Leq_T, Leq_F, n10_F, n01_F, le0_F, lt0_T, le0_T, eq0_F, lt1_F, nJ_not_neg, nJ_ne_neg, nJ_neg_lt, nJ_neg_le, nJ_le_neg, ↓reduceIte, ld_ok, st_ok, rf_ok, ld_okL, st_okL, nJ_add, nJ_addL, nJ_Ladd, nJ_mul, nJ_mulL, nJ_Lmul, min999]
    refine ⟨_, rfl, ⟨?_, ?_, ?_, ?_, ?_, ?_, ?_, ?_⟩, Fr.tr (Fr.up (by unfold pb; omega)) (Fr.up (by unfold pb; omega))⟩
    · rw [up_ne (by omega), up_ne (by omega)]; exact h1
    · rw [up_ne (by omega), up_ne (by omega)]; exact h2
    · rw [up_ne (by omega), up_ne (by omega)]; exact h3
    · rw [up_ne (by omega), up_ne (by omega)]; exact h4
    · rw [up_ne (by omega)]; exact g5
    · rw [up_nk (by omega), up_ne (by omega)]; exact h6
    · show _ = nI (if cU K p = 0 then sK S else _)
      rw [up_at, if_neg c0]
    · rw [up_nk (by omega), up_ne (by omega)]; exact h8
