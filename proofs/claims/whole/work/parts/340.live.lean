/-! LOOPS that count -/
theorem lp_cnt {ρ χ ψ : Type} {b : χ → Option (ρ ⊕ (χ ⊕ ψ))} {n : Nat} (P : Nat → χ → Prop) (Q : ψ → Prop) (hs : ∀ k x, k < n → P k x → ∃ x', b x = some (.inr (.inl x')) ∧ P (k + 1) x') (he : ∀ x, P n x → ∃ y, b x = some (.inr (.inr y)) ∧ Q y) : ∀ (N k : Nat) (x : χ), k ≤ n → n - k < N → P k x → ∃ y, sg_lp b N x = some (.inr y) ∧ Q y := by
  intro N
  induction N with
  | zero => intro k x h1 h2; omega
  | succ N ih =>
    intro k x h1 h2 hp
    by_cases hk : k < n
    · obtain ⟨x', e, hp'⟩ := hs k x hk hp
      rw [lp_step e]
      exact ih (k + 1) x' hk (by omega) hp'
    · have : k = n := by omega
      subst this
      obtain ⟨y, e, hq⟩ := he x hp
      exact ⟨y, lp_out e, hq⟩
/-- the state and a counter -/
theorem lp_st {ρ : Type} {b : sgS × Int32 → Option (ρ ⊕ ((sgS × Int32) ⊕ sgS))} {n : Nat} (P : Nat → sgS → Prop) (hs : ∀ k σ, k < n → P k σ → ∃ σ', b (σ, nI k) = some (.inr (.inl (σ', nI (k + 1)))) ∧ P (k + 1) σ') (he : ∀ σ, P n σ → b (σ, nI n) = some (.inr (.inr σ))) (N k : Nat) (σ : sgS) (h1 : k ≤ n) (h2 : n - k < N) (hp : P k σ) : ∃ σ', sg_lp b N (σ, nI k) = some (.inr σ') ∧ P n σ' := by
  refine lp_cnt (n := n) (fun k x => x.2 = nI k ∧ P k x.1) (P n) ?_ ?_ N k (σ, nI k) h1 h2 ⟨rfl, hp⟩
  · rintro k ⟨σ1, x⟩ hk ⟨e, h⟩
    have e : x = nI k := e
    subst e
    obtain ⟨σ', e1, e2⟩ := hs k σ1 hk h
    exact ⟨_, e1, rfl, e2⟩
  · rintro ⟨σ1, x⟩ ⟨e, h⟩
    have e : x = nI n := e
    subst e
    exact ⟨σ1, he σ1 h, h⟩
/-! the reference's set goes on -/
theorem goD_c {K : Cty} {Y : Wys} {H : Nat → Nat} {w y : Nat} : ∀ (n : Nat) (S : Sta) (h c : Nat), goD K Y H w y n S h c = ((goD K Y H w y n S h 0).1, c + (goD K Y H w y n S h 0).2) := by
  intro n
  induction n with
  | zero => intro S h c; rfl
  | succ n ih =>
    intro S h c
    by_cases hb : sB S w < wL Y y
    · have e : ∀ c, goD K Y H w y (n + 1) S h c = (match goS K Y H w y S h with | none => (S, c) | some q => goD K Y H w y n q.1 q.2 (c + 1)) := fun c => if_pos hb
      rw [e, e]
      cases goS K Y H w y S h with
      | none => rfl
      | some q =>
        show goD K Y H w y n q.1 q.2 (c + 1) = ((goD K Y H w y n q.1 q.2 (0 + 1)).1, c + (goD K Y H w y n q.1 q.2 (0 + 1)).2)
        rw [ih q.1 q.2 (c + 1), ih q.1 q.2 (0 + 1)]
        exact Prod.ext rfl (by show c + 1 + _ = c + (0 + 1 + _); omega)
    · have e : ∀ c, goD K Y H w y (n + 1) S h c = (setW S w 0 0, c) := fun c => if_neg hb
      rw [e, e]; rfl
theorem MY_fr {Y : Wys} {τ τ' : sgS} (H : MY Y τ) (h1 : τ'.1 19 = τ.1 19) (h2 : τ'.1 20 = τ.1 20) (h3 : τ'.1 0 33 = τ.1 0 33) : MY Y τ' := by
  unfold MY at H ⊢
  rw [h1, h2, h3]; exact H
theorem goOn_lp {N w y : Nat} {K : Cty} {Y : Wys} {H G : Nat → Nat} (hN : 10000 ≤ N) (okk : okK K) (oky : okY Y) (h0 : cP K ≠ 0) (hw : w < cS K) : ∀ (n : Nat) (S : Sta) (h c M : Nat) (τ : sgS), MK K τ → MY Y τ → (∀ r, r < cR K → τ.1 23 r = nI (H r) ∧ H r < 100) → MX K G S c τ → okM K Y w y S → sB S w < wL Y y → wL Y y ≤ sB S w + n → h ≤ 24 → n + 2 ≤ M → ∃ τ', sg_lp (fun x : sgS × Int32 × Int32 => f_X12_goOn_L20 N (nI w) x.2.1 x.2.2 x.1) M ((τ, nI h, 1)) = some (.inr τ') ∧ MX K G (goD K Y H w y (n + 1) S h c).1 (goD K Y H w y (n + 1) S h c).2 τ' ∧ Fr goM τ τ' := by
  intro n
  induction n with
  | zero => intro S h c M τ _ _ _ _ _ h1 h2; omega
  | succ n ih =>
    intro S h c M τ hK hY hH hS ok hb hn hh hM
    obtain ⟨M, rfl⟩ : ∃ m, M = m + 2 := ⟨M - 2, by omega⟩
    have st := go_step (N := N) (c := c) (h := h) (H := H) hN okk oky h0 hK hY hH hS ok hw hb hh
    have eD : goD K Y H w y (n + 1 + 1) S h c = (match goS K Y H w y S h with | none => (S, c) | some q => goD K Y H w y (n + 1) q.1 q.2 (c + 1)) := if_pos hb
    rw [eD]
    have out : ∀ (τ1 : sgS) (h1 : Nat), f_X12_goOn_L20 N (nI w) (nI h1) 0 τ1 = some (.inr (.inr τ1)) := fun τ1 h1 => if_pos rfl
    cases hq : goS K Y H w y S h with
    | none =>
      rw [hq] at st
      refine ⟨τ, ?_, hS, Fr.rf⟩
      rw [lp_step st, lp_out (out τ h)]
    | some q =>
      rw [hq] at st
      obtain ⟨h24, τ1, e1, s1, f1⟩ := st
      obtain ⟨o1, o2, o3, o4⟩ := goS_ok okk ok hw hb hq
      by_cases cb : sB S w + 1 < wL Y y
      · rw [if_pos cb] at e1 s1
        obtain ⟨τ2, e2, s2, f2⟩ := ih q.1 q.2 (c + 1) (M + 1) τ1 (MK_fr hK (fun j h3 h9 => funext fun k => f1 j k (by unfold goM; omega)) (fun k h3 h9 => f1 0 k (by unfold goM; omega))) (MY_fr hY (funext fun k => f1 19 k (by unfold goM; omega)) (funext fun k => f1 20 k (by unfold goM; omega)) (f1 0 33 (by unfold goM; omega))) (fun r hr => by rw [f1 23 r (by unfold goM; omega)]; exact hH r hr) s1 o1 (by omega) (by omega) h24 (by omega)
        refine ⟨τ2, ?_, s2, f1.tr f2⟩
        rw [lp_step e1, e2]
      · rw [if_neg cb] at e1 s1
        have eD2 : goD K Y H w y (n + 1) q.1 q.2 (c + 1) = (setW q.1 w 0 0, c + 1) := if_neg (by omega)
        refine ⟨τ1, ?_, ?_, f1⟩
        · rw [lp_step e1, lp_out (out τ1 q.2)]
        · show MX K G (goD K Y H w y (n + 1) q.1 q.2 (c + 1)).1 (goD K Y H w y (n + 1) q.1 q.2 (c + 1)).2 τ1
          rw [eD2]; exact s1
theorem goOn_ok {N w c : Nat} {K : Cty} {Y : Wys} {H G : Nat → Nat} {S : Sta} {τ : sgS} (hN : 10000 ≤ N) (okk : okK K) (oky : okY Y) (h0 : cP K ≠ 0) (hw : w < cS K) (hK : MK K τ) (hY : MY Y τ) (hH : ∀ r, r < cR K → τ.1 23 r = nI (H r) ∧ H r < 100) (hS : MX K G S c τ) (ok : okS K Y S) : ∃ τ', f_X12_goOn N (nI w) τ = some (0, τ') ∧ MX K G (dayW K Y H w S).1 (c + (dayW K Y H w S).2) τ' ∧ Fr goM τ τ' := by
  have hs4 := okk.2.2.1
  have hwn := oky.1
  have eW : τ.1 21 (4 + w) = wI (sW S w) := by obtain ⟨T, m1, _⟩ := hS; exact m1.2.1 w hw
  unfold f_X12_goOn dayW
  rw [nJ_Ladd, ld_ok (by omega) (by decide), eW]
  by_cases c0 : sW S w = 0
  · rw [if_pos c0, c0, wI_0, if_pos rfl]
    refine ⟨τ, ?_, hS, Fr.rf⟩
    unfold f_X12_goOn_B19
    obtain ⟨N', rfl⟩ : ∃ m, N = m + 1 := ⟨N - 1, by omega⟩
    rw [lp_out (y := τ) (show f_X12_goOn_L20 (N' + 1) (nI w) 0 0 τ = _ from if_pos rfl)]
    rfl
  · rw [if_neg c0]
    have hy : sW S w - 1 < wN Y := by have := (ok.1 w hw).2.1; omega
    have hl := oky.2 (sW S w - 1) hy
    have e1 : wI (sW S w) = nI (sW S w - 1) := by rw [show sW S w = (sW S w - 1) + 1 by omega, wI_s]; rfl
    have hb := (ok.1 w hw).2.2.2 c0
    obtain ⟨τ', e2, s2, f2⟩ := goOn_lp (N := N) (H := H) (G := G) (y := sW S w - 1) hN okk oky h0 hw 13 S 0 c N τ hK hY hH hS (okM_of ok hw (by omega)) (by omega) (by omega) (by omega) (by omega)
    rw [goD_c] at s2
    refine ⟨τ', ?_, s2, f2⟩
    rw [e1, if_neg (by rw [nJ_ne_neg (by omega)]; exact id)]
    unfold f_X12_goOn_B19
    have e2 : sg_lp (fun x : sgS × Int32 × Int32 => f_X12_goOn_L20 N (nI w) x.2.1 x.2.2 x.1) N ((τ, 0, 1)) = some (.inr τ') := e2
    rw [e2]
    rfl
theorem MS_G {K : Cty} {S : Sta} {G G' : Nat → Nat} {r v : Nat} {g : Nat → Int32} (ok : okK K) (hr : r < cR K) (h : MS K (setG S G) g) (hv : ∀ k, k < cR K → G' k = if k = r then v else G k) : MS K (setG S G') (upd g (12 + r) (nI v)) := by
  obtain ⟨hp7, hr12, hs4, -⟩ := ok
  obtain ⟨h1, h2, h3, h4, h5, h6, h7, h8⟩ := h
  refine ⟨fun q hq => by rw [upd_get, if_neg (by omega)]; exact h1 q hq, fun q hq => by rw [upd_get, if_neg (by omega)]; exact h2 q hq, fun q hq => by rw [upd_get, if_neg (by omega)]; exact h3 q hq, fun q hq => ?_, fun q hq => by rw [upd_get, if_neg (by omega)]; exact h5 q hq, by rw [upd_get, if_neg (by omega)]; exact h6, by rw [upd_get, if_neg (by omega)]; exact h7, by rw [upd_get, if_neg (by omega)]; exact h8⟩
  show _ = nI (G' q)
  rw [upd_get, hv q hq]
  by_cases c : q = r
  · rw [if_pos (by omega), if_pos c]
  · rw [if_neg (by omega), if_neg c]; exact h4 q hq
theorem MS_D {K : Cty} {S : Sta} {d : Nat} {g : Nat → Int32} (ok : okK K) (h : MS K S g) : MS K (setD S d) (upd g 33 (nI d)) := by
  obtain ⟨hp7, hr12, hs4, -⟩ := ok
  obtain ⟨h1, h2, h3, h4, h5, h6, h7, h8⟩ := h
  exact ⟨fun q hq => by rw [upd_get, if_neg (by omega)]; exact h1 q hq, fun q hq => by rw [upd_get, if_neg (by omega)]; exact h2 q hq, fun q hq => by rw [upd_get, if_neg (by omega)]; exact h3 q hq, fun q hq => by rw [upd_get, if_neg (by omega)]; exact h4 q hq, fun q hq => by rw [upd_get, if_neg (by omega)]; exact h5 q hq, by rw [upd_get, if_neg (by omega)]; exact h6, by rw [upd_get, if_neg (by omega)]; exact h7, by rw [upd_get, if_pos rfl]; rfl⟩
theorem MS_setG {K : Cty} {S : Sta} {G : Nat → Nat} {g : Nat → Int32} (h : MS K (setG S G) g) (e : ∀ k, k < cR K → G k = sG S k) : MS K S g := by
  obtain ⟨h1, h2, h3, h4, h5, h6, h7, h8⟩ := h
  exact ⟨h1, h2, h3, fun k hk => by rw [← e k hk]; exact h4 k hk, h5, h6, h7, h8⟩
def liM (j k : Nat) : Prop := mlM j k ∨ goM j k
theorem min999g {a b : Nat} (h : a ≤ 999) (hb : b ≤ 999) : (if nI (a + b) < 999 then nI (a + b) else 999) = nI (min 999 (a + b)) := by
  by_cases c : a + b < 999
  · rw [if_pos (by rw [nJ_ltL (by omega) (by decide)]; exact c), Nat.min_eq_right (by omega)]
  · rw [if_neg (by rw [nJ_ltL (by omega) (by decide)]; exact c), Nat.min_eq_left (by omega)]; rfl
theorem live_ok {N : Nat} {K : Cty} {W : Lws} {Y : Wys} {S : Sta} {τ : sgS} (hN : 10000 ≤ N) (okk : okK K) (okw : okW W) (oky : okY Y) (h0 : cP K ≠ 0) (hK : MK K τ) (hW : MLw W τ) (hY : MY Y τ) (hS : MS K S (τ.1 21)) (ok : okS K Y S) (hd : sD S < 1999) : ∃ τ', f_X12_live N τ = some (0, τ') ∧ MS K (dayA K W Y S) (τ'.1 21) ∧ τ'.1 0 40 = nI (dayC K W Y S) ∧ Fr liM τ τ' := by
  have hs4 := okk.2.2.1
  have hr12 := okk.2.1
  obtain ⟨τ1, e1, hH, f1⟩ := layLongs_ok (N := N) hN okk okw (okG_of okk ok (by omega)) hK hW hS
  have f2 : Fr goM τ1 (sg_up τ1 0 40 0) := Fr.up (Or.inr (Or.inr ⟨rfl, rfl⟩))
  have S1 : τ1.1 21 = τ.1 21 := funext fun k => f1 21 k (by unfold mlM meM; omega)
  obtain ⟨τ3, e3, f3, q3, z3, t3⟩ := lp_st (b := fun x : sgS × Int32 => f_X12_live_L11 N x.2 x.1) (n := 12) (fun k σ => Fr goM (sg_up τ1 0 40 0) σ ∧ σ.1 21 = τ.1 21 ∧ σ.1 0 40 = nI 0 ∧ ∀ j, j < k → σ.1 24 j = nI 0) (by
    rintro k σ hk ⟨g1, g2, g3, g4⟩
    refine ⟨sg_up σ 24 k 0, ?_, g1.tr (Fr.up (Or.inr (Or.inl rfl))), by rw [up_ne (by decide)]; exact g2, by rw [up_ne (by decide)]; exact g3, fun j hj => ?_⟩
    · show f_X12_live_L11 N (nI k) σ = _
      unfold f_X12_live_L11
      simp (disch := omega) only [sg_cr, sg_cl, sg_lb, sg_pf, sg_pl, sg_nz, sg_nzl, sg_nar0, sg_nar1, lt_T, lt_F, le_T, le_F, eq_T, eq_F, ltL_T, ltL_F, leL_T, leL_F, eqL_T, eqL_F, Llt_T, Llt_F, Lle_T, Lle_F, Leq_T, Leq_F, n10_F, n01_F, le0_F, lt0_T, le0_T, eq0_F, lt1_F, nJ_not_neg, nJ_ne_neg, nJ_neg_lt, nJ_neg_le, nJ_le_neg, ↓reduceIte, ld_ok, st_ok, rf_ok, ld_okL, st_okL, nJ_add, nJ_addL, nJ_Ladd, nJ_mul, nJ_mulL, nJ_Lmul]
    · rw [up_get]
      by_cases c : j = k
      · rw [if_pos ⟨rfl, c⟩]; rfl
      · rw [if_neg (fun z => c z.2)]; exact g4 j (by omega)) (by
    rintro σ -
    show f_X12_live_L11 N (nI 12) σ = _
    unfold f_X12_live_L11
    rw [if_pos (by decide)]) N 0 (sg_up τ1 0 40 0) (by omega) (by omega) ⟨Fr.rf, by rw [up_ne (by decide)]; exact S1, by rw [up_at]; rfl, fun j hj => absurd hj (Nat.not_lt_zero j)⟩
  have X3 : MX K (sG S) S 0 τ3 := ⟨fun _ => 0, by rw [q3]; exact hS, fun k hk => t3 k hk, z3, fun k hk => by have := ok.2.2.1 k hk; rw [Nat.add_zero]; omega, fun k => Nat.le_refl _⟩
  have F3 : Fr goM τ1 τ3 := f2.tr f3
  have K1 : MK K τ1 := MK_fr hK (fun j h3 h9 => funext fun k => f1 j k (by unfold mlM meM; omega)) (fun k h3 h9 => f1 0 k (by unfold mlM meM; omega))
  have Y1 : MY Y τ1 := MY_fr hY (funext fun k => f1 19 k (by unfold mlM meM; omega)) (funext fun k => f1 20 k (by unfold mlM meM; omega)) (f1 0 33 (by unfold mlM meM; omega))
  have kp : ∀ {σ}, Fr goM τ1 σ → MK K σ ∧ MY Y σ ∧ ∀ r, r < cR K → σ.1 23 r = nI (hLg K W S r) ∧ hLg K W S r < 100 := fun {σ} f => ⟨MK_fr K1 (fun j h3 h9 => funext fun k => f j k (by unfold goM; omega)) (fun k h3 h9 => f 0 k (by unfold goM; omega)), MY_fr Y1 (funext fun k => f 19 k (by unfold goM; omega)) (funext fun k => f 20 k (by unfold goM; omega)) (f 0 33 (by unfold goM; omega)), fun r hr => ⟨by rw [f 23 r (by unfold goM; omega)]; exact hH r hr, by have := hLg_bd (W := W) (S := S) okk hr; omega⟩⟩
  obtain ⟨τ4, e4, F4, X4⟩ := lp_st (b := fun x : sgS × Int32 => f_X12_live_L32 N x.2 x.1) (n := cS K) (fun k σ => Fr goM τ1 σ ∧ MX K (sG S) (daysW K Y (hLg K W S) S k).1 (daysW K Y (hLg K W S) S k).2 σ) (by
    rintro k σ hk ⟨g1, g2⟩
    obtain ⟨k1, k2, k3⟩ := kp g1
    obtain ⟨σ', e, x, f⟩ := goOn_ok (N := N) (w := k) hN okk oky h0 hk k1 k2 k3 g2 (daysW_ok okk oky ok k (by omega)).1
    refine ⟨σ', ?_, g1.tr f, x⟩
    show f_X12_live_L32 N (nI k) σ = _
    unfold f_X12_live_L32
    rw [k1.2.2.1]
    simp (disch := omega) only [sg_cr, sg_cl, sg_lb, sg_pf, sg_pl, sg_nz, sg_nzl, sg_nar0, sg_nar1, lt_T, lt_F, le_T, le_F, eq_T, eq_F, ltL_T, ltL_F, leL_T, leL_F, eqL_T, eqL_F, Llt_T, Llt_F, Lle_T, Lle_F, Leq_T, Leq_F, n10_F, n01_F, le0_F, lt0_T, le0_T, eq0_F, lt1_F, nJ_not_neg, nJ_ne_neg, nJ_neg_lt, nJ_neg_le, nJ_le_neg, ↓reduceIte, ld_ok, st_ok, rf_ok, ld_okL, st_okL, nJ_add, nJ_addL, nJ_Ladd, nJ_mul, nJ_mulL, nJ_Lmul, e]) (by
    rintro σ ⟨g1, g2⟩
    obtain ⟨k1, k2, k3⟩ := kp g1
    show f_X12_live_L32 N (nI (cS K)) σ = _
    unfold f_X12_live_L32
    rw [k1.2.2.1]
    simp (disch := omega) only [sg_cr, sg_cl, sg_lb, sg_pf, sg_pl, sg_nz, sg_nzl, sg_nar0, sg_nar1, lt_T, lt_F, le_T, le_F, eq_T, eq_F, ltL_T, ltL_F, leL_T, leL_F, eqL_T, eqL_F, Llt_T, Llt_F, Lle_T, Lle_F, Leq_T, Leq_F, n10_F, n01_F, le0_F, lt0_T, le0_T, eq0_F, lt1_F, nJ_not_neg, nJ_ne_neg, nJ_neg_lt, nJ_neg_le, nJ_le_neg, ↓reduceIte, ld_ok, st_ok, rf_ok, ld_okL, st_okL, nJ_add, nJ_addL, nJ_Ladd, nJ_mul, nJ_mulL, nJ_Lmul]) N 0 τ3 (by omega) (by omega) ⟨F3, X3⟩
  obtain ⟨i1, i2, i3, i4⟩ := daysW_ok (H := hLg K W S) okk oky ok (cS K) (Nat.le_refl _)
  obtain ⟨T, m1, m2, m3, m4, m5⟩ := X4
  obtain ⟨τ5, e5, F5, s5, t5, c5⟩ := lp_st (b := fun x : sgS × Int32 => f_X12_live_L53 N x.2 x.1) (n := cR K) (fun k σ => Fr goM τ1 σ ∧ MS K (setG (daysW K Y (hLg K W S) S (cS K)).1 (fun r => if r < k then sG (daysW K Y (hLg K W S) S (cS K)).1 r else sG S r)) (σ.1 21) ∧ σ.1 24 = τ4.1 24 ∧ σ.1 0 40 = τ4.1 0 40) (by
    rintro k σ hk ⟨g1, g2, g3, g4⟩
    obtain ⟨k1, k2, k3⟩ := kp g1
    have ek := g2.2.2.2.1 k hk
    have ek : σ.1 21 (12 + k) = nI (sG S k) := by
      rw [ek]
      show nI (if k < k then _ else sG S k) = _
      rw [if_neg (by omega)]
    have hT : T k ≤ 56 := by have := m5 k; omega
    have hG := ok.2.2.1 k hk
    have e24 : σ.1 24 k = nI (T k) := by rw [g3]; exact m2 k (by omega)
    refine ⟨sg_up σ 21 (12 + k) (nI (min 999 (sG S k + T k))), ?_, g1.tr (Fr.up (Or.inl ⟨rfl, by omega⟩)), ?_, by rw [up_ne (by decide)]; exact g3, by rw [up_ne (by decide)]; exact g4⟩
    · show f_X12_live_L53 N (nI k) σ = _
      unfold f_X12_live_L53
      rw [k1.2.1]
      simp (disch := omega) only [sg_cr, sg_cl, sg_lb, sg_pf, sg_pl, sg_nz, sg_nzl, sg_nar0, sg_nar1, lt_T, lt_F, le_T, le_F, eq_T, eq_F, ltL_T, ltL_F, leL_T, leL_F, eqL_T, eqL_F, Llt_T, Llt_F, Lle_T, Lle_F, Leq_T, Leq_F, n10_F, n01_F, le0_F, lt0_T, le0_T, eq0_F, lt1_F, nJ_not_neg, nJ_ne_neg, nJ_neg_lt, nJ_neg_le, nJ_le_neg, ↓reduceIte, ld_ok, st_ok, rf_ok, ld_okL, st_okL, nJ_add, nJ_addL, nJ_Ladd, nJ_mul, nJ_mulL, nJ_Lmul, ek, e24, min999g]
    · rw [row21]
      refine MS_G okk hk g2 (fun q hq => ?_)
      by_cases c : q = k
      · rw [if_pos c, if_pos (by omega), c]; exact m4 k hk
      · rw [if_neg c]
        by_cases c2 : q < k
        · rw [if_pos c2, if_pos (by omega)]
        · rw [if_neg c2, if_neg (by omega)]) (by
    rintro σ ⟨g1, g2⟩
    obtain ⟨k1, k2, k3⟩ := kp g1
    show f_X12_live_L53 N (nI (cR K)) σ = _
    unfold f_X12_live_L53
    rw [k1.2.1]
    simp (disch := omega) only [sg_cr, sg_cl, sg_lb, sg_pf, sg_pl, sg_nz, sg_nzl, sg_nar0, sg_nar1, lt_T, lt_F, le_T, le_F, eq_T, eq_F, ltL_T, ltL_F, leL_T, leL_F, eqL_T, eqL_F, Llt_T, Llt_F, Lle_T, Lle_F, Leq_T, Leq_F, n10_F, n01_F, le0_F, lt0_T, le0_T, eq0_F, lt1_F, nJ_not_neg, nJ_ne_neg, nJ_neg_lt, nJ_neg_le, nJ_le_neg, ↓reduceIte, ld_ok, st_ok, rf_ok, ld_okL, st_okL, nJ_add, nJ_addL, nJ_Ladd, nJ_mul, nJ_mulL, nJ_Lmul]) N 0 τ4 (by omega) (by omega) ⟨F4, by
      have e : (fun r => if r < 0 then sG (daysW K Y (hLg K W S) S (cS K)).1 r else sG S r) = sG S := funext fun r => if_neg (by omega)
      rw [e]; exact m1, rfl, rfl⟩
  have s6 : MS K (daysW K Y (hLg K W S) S (cS K)).1 (τ5.1 21) := MS_setG s5 (fun k hk => if_pos hk)
  have e33 : τ5.1 21 33 = nI (sD S) := by rw [s6.2.2.2.2.2.2.2, i3]
  refine ⟨sg_up τ5 21 33 (nI (sD S + 1)), ?_, ?_, ?_, ((f1.mono (fun j k h => Or.inl h)).tr (F5.mono (fun j k h => Or.inr h))).tr (Fr.up (Or.inr (Or.inl ⟨rfl, by decide⟩)))⟩
  · unfold f_X12_live
    rw [e1]
    simp only [sg_cl, sg_pf]
    have e3 : sg_lp (fun x : sgS × Int32 => f_X12_live_L11 N x.2 x.1) N ((sg_up τ1 0 40 0, 0)) = _ := e3
    have e4 : sg_lp (fun x : sgS × Int32 => f_X12_live_L32 N x.2 x.1) N ((τ3, 0)) = _ := e4
    have e5 : sg_lp (fun x : sgS × Int32 => f_X12_live_L53 N x.2 x.1) N ((τ4, 0)) = _ := e5
    rw [e3]
    simp only [sg_lb]
    rw [e4]
    simp only [sg_lb]
    rw [e5]
    simp (disch := omega) only [sg_lb, sg_cr, sg_cl, sg_lb, sg_pf, sg_pl, sg_nz, sg_nzl, sg_nar0, sg_nar1, lt_T, lt_F, le_T, le_F, eq_T, eq_F, ltL_T, ltL_F, leL_T, leL_F, eqL_T, eqL_F, Llt_T, Llt_F, Lle_T, Lle_F, Leq_T, Leq_F, n10_F, n01_F, le0_F, lt0_T, le0_T, eq0_F, lt1_F, nJ_not_neg, nJ_ne_neg, nJ_neg_lt, nJ_neg_le, nJ_le_neg, ↓reduceIte, ld_ok, st_ok, rf_ok, ld_okL, st_okL, nJ_add, nJ_addL, nJ_Ladd, nJ_mul, nJ_mulL, nJ_Lmul, e33]
  · rw [row21]
    exact MS_D okk s6
  · rw [up_ne (by decide), c5, m3]; rfl
