/-! A DAY with its log -/
def onB (S : Sta) : Nat → Nat
  | 0 => 0
  | n + 1 => if sW S n = 0 then onB S n else onB S n ||| 2 ^ n
theorem onB_lt {S : Sta} : ∀ n, onB S n < 2 ^ n := by
  intro n
  induction n with
  | zero => exact Nat.one_pos
  | succ n ih =>
    show (if sW S n = 0 then onB S n else onB S n ||| 2 ^ n) < 2 ^ (n + 1)
    have h1 : onB S n < 2 ^ (n + 1) := by rw [Nat.pow_succ]; omega
    by_cases c : sW S n = 0
    · rw [if_pos c]; exact h1
    · rw [if_neg c]; exact Nat.or_lt_two_pow h1 (Nat.pow_lt_pow_right (by decide) (by omega))
theorem onB_ext {S : Sta} {n m : Nat} (h : ∀ w, n ≤ w → w < m → sW S w = 0) : n ≤ m → onB S m = onB S n := by
  intro hm
  induction m with
  | zero => rw [show n = 0 by omega]
  | succ m ih =>
    by_cases c : n = m + 1
    · rw [c]
    · show (if sW S m = 0 then onB S m else onB S m ||| 2 ^ m) = onB S n
      rw [if_pos (h m (by omega) (by omega))]
      exact ih (fun w a b => h w a (by omega)) (by omega)
theorem setsOnWay_ok {N o : Nat} {K : Cty} {Y : Wys} {S : Sta} {σ : sgS} (hN : 10000 ≤ N) (okk : okK K) (ok : okS K Y S) (hn : wN Y ≤ 4) (hS : CS K S o σ) : f_X8_setsOnWay N o σ = some (nI (onB S (cS K))) := by
  have hs4 := okk.2.2.1
  have key := lp_for (b := fun x : Int32 × Int32 => f_X8_setsOnWay_L4 N o x.1 x.2 σ) (fun k => (nI (onB S k), nI k)) 4 (nI (onB S 4)) (fun k hk => by
    show f_X8_setsOnWay_L4 N o (nI (onB S k)) (nI k) σ = some (.inr (.inl (nI (if sW S k = 0 then onB S k else onB S k ||| 2 ^ k), nI (k + 1))))
    have hle : sW S k ≤ 4 := by
      by_cases c : k < cS K
      · have := (ok.1 k c).2.1; omega
      · rw [ok.2.1 k (by omega) hk]; omega
    unfold f_X8_setsOnWay_L4
    simp (disch := omega) only [sg_cr, sg_cl, sg_lb, sg_pf, sg_pl, sg_nz, sg_nzl, sg_nar0, sg_nar1, lt_T, lt_F, le_T, le_F, eq_T, eq_F, ltL_T, ltL_F, leL_T, leL_F, eqL_T, eqL_F, Llt_T, Llt_F, Lle_T, Lle_F, Leq_T, Leq_F, n10_F, n01_F, le0_F, lt0_T, le0_T, eq0_F, lt1_F, nJ_not_neg, nJ_ne_neg, nJ_neg_lt, nJ_neg_le, nJ_le_neg, ↓reduceIte, ld_ok, st_ok, rf_ok, ld_okL, st_okL, nJ_add, nJ_addL, nJ_Ladd, nJ_mul, nJ_mulL, nJ_Lmul, hS.2.1 k hk]
    by_cases c : sW S k = 0
    · rw [if_pos c, c, wI_0, if_pos rfl]
    · obtain ⟨b, hb⟩ : ∃ b, sW S k = b + 1 := ⟨sW S k - 1, by omega⟩
      rw [if_neg c, hb, wI_s, if_neg (by rw [nJ_ne_neg (by omega)]; exact id), shl_1 (by omega), nI_or]) (by
    show f_X8_setsOnWay_L4 N o _ (nI 4) σ = _
    unfold f_X8_setsOnWay_L4
    rw [if_pos (by decide)]) N 0 (by omega) (by omega)
  unfold f_X8_setsOnWay
  have key : sg_lp (fun x : Int32 × Int32 => f_X8_setsOnWay_L4 N o x.1 x.2 σ) N ((0, 0)) = _ := key
  rw [key, onB_ext (n := cS K) (m := 4) ok.2.1 hs4]
  rfl
theorem onWay_ok {N : Nat} {K : Cty} {Y : Wys} {S : Sta} {τ : sgS} (hN : 10000 ≤ N) (okk : okK K) (ok : okS K Y S) (hn : wN Y ≤ 4) (hK : τ.1 0 30 = nI (cS K)) (hS : ∀ w, w < cS K → τ.1 21 (4 + w) = wI (sW S w)) : f_X12_onWay N τ = some (nI (onB S (cS K))) := by
  have hs4 := okk.2.2.1
  have key := lp_for (b := fun x : Int32 × Int32 => f_X12_onWay_L4 N x.1 x.2 τ) (fun k => (nI (onB S k), nI k)) (cS K) (nI (onB S (cS K))) (fun k hk => by
    show f_X12_onWay_L4 N (nI (onB S k)) (nI k) τ = some (.inr (.inl (nI (if sW S k = 0 then onB S k else onB S k ||| 2 ^ k), nI (k + 1))))
    have hle := (ok.1 k hk).2.1
    unfold f_X12_onWay_L4
    rw [hK]
    simp (disch := omega) only [sg_cr, sg_cl, sg_lb, sg_pf, sg_pl, sg_nz, sg_nzl, sg_nar0, sg_nar1, lt_T, lt_F, le_T, le_F, eq_T, eq_F, ltL_T, ltL_F, leL_T, leL_F, eqL_T, eqL_F, Llt_T, Llt_F, Lle_T, Lle_F, Leq_T, Leq_F, n10_F, n01_F, le0_F, lt0_T, le0_T, eq0_F, lt1_F, nJ_not_neg, nJ_ne_neg, nJ_neg_lt, nJ_neg_le, nJ_le_neg, ↓reduceIte, ld_ok, st_ok, rf_ok, ld_okL, st_okL, nJ_add, nJ_addL, nJ_Ladd, nJ_mul, nJ_mulL, nJ_Lmul, hS k hk]
    by_cases c : sW S k = 0
    · rw [if_pos c, c, wI_0, if_pos rfl, show nI (onB S k) ||| 0 = nI (onB S k) from by rw [nJ_0, nI_or, Nat.or_zero]]
    · obtain ⟨b, hb⟩ : ∃ b, sW S k = b + 1 := ⟨sW S k - 1, by omega⟩
      rw [if_neg c, hb, wI_s, if_neg (by rw [nJ_ne_neg (by omega)]; exact id), shl_1 (by omega), nI_or]) (by
    show f_X12_onWay_L4 N _ (nI (cS K)) τ = _
    unfold f_X12_onWay_L4
    rw [hK]
    simp (disch := omega) only [sg_cr, sg_cl, sg_lb, sg_pf, sg_pl, sg_nz, sg_nzl, sg_nar0, sg_nar1, lt_T, lt_F, le_T, le_F, eq_T, eq_F, ltL_T, ltL_F, leL_T, leL_F, eqL_T, eqL_F, Llt_T, Llt_F, Lle_T, Lle_F, Leq_T, Leq_F, n10_F, n01_F, le0_F, lt0_T, le0_T, eq0_F, lt1_F, nJ_not_neg, nJ_ne_neg, nJ_neg_lt, nJ_neg_le, nJ_le_neg, ↓reduceIte, ld_ok, st_ok, rf_ok, ld_okL, st_okL, nJ_add, nJ_addL, nJ_Ladd, nJ_mul, nJ_mulL, nJ_Lmul]) N 0 (by omega) (by omega)
  unfold f_X12_onWay
  have key : sg_lp (fun x : Int32 × Int32 => f_X12_onWay_L4 N x.1 x.2 τ) N ((0, 0)) = _ := key
  rw [key]
  rfl
def lgN (L : Nat → Nat → Int32) (d : Nat) (a b c : Int32) : Nat → Nat → Int32 := fun e j => if e = d then (if j = 0 then a else if j = 1 then b else c) else L e j
def dS (A : Abs) : Sta := dayA (aK A) (aL A) (aY A) (aS A)
def dG (A : Abs) : Nat → Nat → Int32 := lgN (aG A) (sD (aS A) + 1) (nI (dayC (aK A) (aL A) (aY A) (aS A))) (nI (onB (dS A) (cS (aK A)))) (nI (sX (aS A)))
def dA (A : Abs) : Abs := uP (uS A (dS A, dG A)) (aN A, aH A, max (aO A) (sD (aS A) + 1 - 100))
/-- the last act was kept on this day -/
def preD (A : Abs) : Prop := 1 ≤ aN A ∧ sD (aH A (aN A - 1)) = sD (aS A)
theorem kP_pre {A : Abs} (ok : okA A) : preD (kP A) := by
  have h40 := ok.2.2.2.2.2.2.1.1
  have e : aN (kP A) = min 40 (aN A + 1) := rfl
  refine ⟨by omega, ?_⟩
  show sD (kH A (kN A - 1)) = sD (aS A)
  have e : kN A = min 40 (aN A + 1) := rfl
  unfold kH
  by_cases c : aN A < 40
  · rw [if_pos c, if_neg (by omega)]
  · rw [if_neg c, if_neg (by omega)]
theorem aD_back {A : Abs} (ok : okA A) : ∀ n a, a + n = aN A → aD A (aN A) ≤ aD A a + n := by
  intro n
  induction n with
  | zero => intro a h; rw [show a = aN A by omega]; omega
  | succ n ih =>
    intro a h
    have h1 := ih (a + 1) (by omega)
    have h2 := (ok.2.2.2.2.2.2.1.2.2.1 a (by omega)).2
    omega
theorem dA_ok {A : Abs} (ok : okA A) (h0 : cP (aK A) ≠ 0) (hp : preD A) (hd : sD (aS A) < 999) : okA (dA A) := by
  obtain ⟨d1, d2, d3, d4⟩ := dayA_ok (W := aL A) ok.2.1 ok.2.2.2.1 (ok.2.2.2.2.2.1 h0)
  obtain ⟨p1, p2⟩ := hp
  have o := ok.2.2.2.2.2.2.1
  have eL : ∀ a, a < aN A → aD (dA A) a = aD A a := fun a ha => by
    show (if a < aN A then sD (aH A a) else sD (dS A)) = (if a < aN A then sD (aH A a) else sD (aS A))
    rw [if_pos ha, if_pos ha]
  have eN : aD (dA A) (aN A) = sD (aS A) + 1 := by
    show (if aN A < aN A then _ else sD (dS A)) = _
    rw [if_neg (by omega)]; exact d3
  have eO : aD A (aN A - 1) = sD (aS A) := by rw [aD_lt (by omega)]; exact p2
  refine ⟨ok.1, ok.2.1, ok.2.2.1, ok.2.2.2.1, fun h => absurd h h0, fun _ => d1, ⟨o.1, o.2.1, fun a ha => ?_, fun a ha => ?_⟩, by show sD (dayA _ _ _ _) ≤ 999; rw [d3]; omega, ok.2.2.2.2.2.2.2.2⟩
  · have ha : a < aN A := ha
    by_cases c : a + 1 < aN A
    · rw [eL a ha, eL (a + 1) c]; exact o.2.2.1 a ha
    · rw [eL a ha, show a + 1 = aN A by omega, eN, show a = aN A - 1 by omega, eO]; omega
  · have ha : a ≤ aN A := ha
    show max (aO A) (sD (aS A) + 1 - 100) = 0 ∨ max (aO A) (sD (aS A) + 1 - 100) + 60 ≤ aD (dA A) a
    have h1 := o.2.2.2 a ha
    have h2 : sD (aS A) ≤ aD A a + (aN A - a) := by have := aD_back ok (aN A - a) a (by omega); rw [aD_now] at this; exact this
    have h3 := o.1
    by_cases c : a < aN A
    · rw [eL a c]
      have h4 : sD (aS A) + 1 ≤ aD A a + (aN A - a) := by
        have h5 := aD_back ok (aN A - a) a (by omega)
        by_cases c2 : a = aN A - 1
        · rw [c2, eO]; omega
        · have h6 : aD A (aN A - 1) ≤ aD A a + (aN A - 1 - a) := by
            have : ∀ n b, b + n = aN A - 1 → aD A (aN A - 1) ≤ aD A b + n := by
              intro n
              induction n with
              | zero => intro b h; rw [show b = aN A - 1 by omega]; omega
              | succ n ih =>
                intro b h
                have g1 := ih (b + 1) (by omega)
                have g2 := (o.2.2.1 b (by omega)).2
                omega
            exact this _ _ (by omega)
          rw [eO] at h6
          omega
      omega
    · rw [show a = aN A by omega, eN]
      have : aD A a = sD (aS A) := by rw [show a = aN A by omega]; exact aD_now
      omega
def pD (j k : Nat) : Prop := scC j k ∨ (37 ≤ j ∧ j ≤ 42) ∨ j = 54
def pE (j k : Nat) : Prop := scM j k ∨ j = 21
theorem passDay_C {N : Nat} {A : Abs} {σ : sgS} (hN : 10000 ≤ N) (ok : okA A) (h0 : cP (aK A) ≠ 0) (hd : sD (aS A) < 999) (C : RelC A σ) : ∃ σ', f_X11_passDay N σ = some (0, σ') ∧ RelC (dA A) σ' := by
  have okL4 : (aL A).1 ≤ 4 := ok.2.2.1.1
  have okY4 : wN (aY A) ≤ 4 := ok.2.2.2.1.1
  have gC := RelC_iff.mp C
  obtain ⟨d1, d2, d3, d4⟩ := dayA_ok (W := aL A) ok.2.1 ok.2.2.2.1 (ok.2.2.2.2.2.1 h0)
  obtain ⟨σ1, e1, s1, f1⟩ := pass_ok (N := N) (o := 37) hN ok.2.1 ok.2.2.1 ok.2.2.2.1 h0 (Or.inl rfl) gC.2.1 gC.2.2.1 gC.2.2.2.1 (gC.2.2.2.2.1.1 h0) (ok.2.2.2.2.2.1 h0) (by omega)
  have e2 := setsOnWay_ok (N := N) hN ok.2.1 d1 okY4 s1
  have e7 : σ1.1 37 7 = nI (sD (aS A) + 1) := by rw [s1.2.2.2.2.2.2.2, d3]
  have e5 : σ1.1 37 5 = nI (sX (aS A)) := by rw [s1.2.2.2.2.2.1, d2]
  have f1' : Fr pD σ σ1 := f1.mono (fun j k h => by unfold daC meC stkC pb at h; unfold pD scC; omega)
  have fC : Fr pD σ (sg_up (sg_up (sg_up σ1 54 (3 * ((sD (aS A) + 1) % 100)) (nI (dayC (aK A) (aL A) (aY A) (aS A)))) 54 (3 * ((sD (aS A) + 1) % 100) + 1) (nI (onB (dS A) (cS (aK A))))) 54 (3 * ((sD (aS A) + 1) % 100) + 2) (nI (sX (aS A)))) := ((f1'.tr (Fr.up (Or.inr (Or.inr rfl)))).tr (Fr.up (Or.inr (Or.inr rfl)))).tr (Fr.up (Or.inr (Or.inr rfl)))
  refine ⟨_, ?_, RelC_iff.mpr ⟨(gCT_fr fC (fun j k hx => by unfold xCT at hx; (try unfold pD); (try unfold pE); (try unfold scC); (try unfold scM); omega) rfl gC.1), (gCK_fr fC (fun j k hx => by unfold xCK at hx; (try unfold pD); (try unfold pE); (try unfold scC); (try unfold scM); omega) rfl gC.2.1), (gCL_fr fC (fun j k hx => by unfold xCL at hx; (try unfold pD); (try unfold pE); (try unfold scC); (try unfold scM); omega) rfl okL4 gC.2.2.1), (gCY_fr fC (fun j k hx => by unfold xCY at hx; (try unfold pD); (try unfold pE); (try unfold scC); (try unfold scM); omega) rfl okY4 gC.2.2.2.1), ⟨fun _ => ?_, ?_, ?_⟩, (gCP_fr fC (fun j k hx => by unfold xCP at hx; (try unfold pD); (try unfold pE); (try unfold scC); (try unfold scM); omega) rfl rfl rfl gC.2.2.2.2.2.1), (gCI_fr fC (fun j k hx => by unfold xCI at hx; (try unfold pD); (try unfold pE); (try unfold scC); (try unfold scM); omega) rfl rfl gC.2.2.2.2.2.2.1), (gCV_fr fC (fun j k hx => by unfold xCV at hx; (try unfold pD); (try unfold pE); (try unfold scC); (try unfold scM); omega) rfl gC.2.2.2.2.2.2.2.1), (gCF_fr fC (fun j k hx => by unfold xCF at hx; (try unfold pD); (try unfold pE); (try unfold scC); (try unfold scM); omega) rfl gC.2.2.2.2.2.2.2.2.1), (gCR_fr fC (fun j k hx => by unfold xCR at hx; (try unfold pD); (try unfold pE); (try unfold scC); (try unfold scM); omega) rfl gC.2.2.2.2.2.2.2.2.2)⟩⟩
  · unfold f_X11_passDay f_X6_note
    rw [e1]
    simp only [sg_cl]
    rw [e2]
    simp only [sg_cr]
    rw [e7, e5, rowOf_ok (by omega)]
    simp (disch := omega) only [sg_cr, sg_cl, sg_lb, sg_pf, sg_pl, sg_nz, sg_nzl, sg_nar0, sg_nar1, lt_T, lt_F, le_T, le_F, eq_T, eq_F, ltL_T, ltL_F, leL_T, leL_F, eqL_T, eqL_F, Llt_T, Llt_F, Lle_T, Lle_F, Leq_T, Leq_F, n10_F, n01_F, le0_F, lt0_T, le0_T, eq0_F, lt1_F, nJ_not_neg, nJ_ne_neg, nJ_neg_lt, nJ_neg_le, nJ_le_neg, ↓reduceIte, ld_ok, st_ok, rf_ok, ld_okL, st_okL, nJ_add, nJ_addL, nJ_Ladd, nJ_mul, nJ_mulL, nJ_Lmul]
    rfl
  · show CS (aK A) (dS A) 37 _
    exact CS_congr (fun i hi => by rw [up_ne (by omega), up_ne (by omega), up_ne (by omega)]) s1
  · rw [up_ne (by decide), up_ne (by decide), up_ne (by decide), e7]
    show _ = nI (sD (dayA _ _ _ _))
    rw [d3]
  · show CLg (dG A) (max (aO A) (sD (aS A) + 1 - 100)) (sD (dayA _ _ _ _)) _
    rw [d3]
    intro e h1 h2 j hj
    have g54 : ∀ q, σ1.1 54 q = σ.1 54 q := fun q => f1 54 q (by unfold daC meC stkC pb; omega)
    rw [up_get, up_get, up_get, g54]
    unfold dG lgN
    by_cases c : e = sD (aS A) + 1
    · rw [if_pos c, c]
      rcases j with _ | _ | _ | j
      · rw [if_neg (by omega), if_neg (by omega), if_pos ⟨rfl, rfl⟩, if_pos rfl]
      · rw [if_neg (by omega), if_pos ⟨rfl, rfl⟩, if_neg (by decide), if_pos rfl]
      · rw [if_pos ⟨rfl, rfl⟩, if_neg (by decide), if_neg (by decide)]
      · omega
    · rw [if_neg c, if_neg (by omega), if_neg (by omega), if_neg (by omega)]
      exact gC.2.2.2.2.1.2.2 e (by omega) (by omega) j hj
/-- the reference's log moves up where it is full -/
def sh3 (g : Nat → Int32) (m : Nat) : Nat → Int32 := fun q => if 35 ≤ q ∧ q + 3 < 35 + m then g (q + 3) else g q
theorem sh3_s {τ : sgS} {g : Nat → Int32} {k : Nat} (h : 3 ≤ k) : sg_up (sg_row τ 21 (sh3 g k)) 21 (35 + k - 3) (g (35 + k)) = sg_row τ 21 (sh3 g (k + 1)) := by
  refine Prod.ext (funext fun j => funext fun q => ?_) rfl
  rw [up_get, row_get, row_get]
  unfold sh3
  by_cases hj : j = 21
  · by_cases hq : q = 35 + k - 3
    · rw [if_pos ⟨hj, hq⟩, if_pos hj, if_pos (by omega), hq, show 35 + k - 3 + 3 = 35 + k by omega]
    · rw [if_neg (by rintro ⟨-, h2⟩; exact hq h2), if_pos hj, if_pos hj]
      by_cases c : 35 ≤ q ∧ q + 3 < 35 + k
      · rw [if_pos c, if_pos (by omega)]
      · rw [if_neg c, if_neg (by omega)]
  · rw [if_neg (by rintro ⟨h2, -⟩; exact hj h2), if_neg hj, if_neg hj]
theorem sh3_0 {τ : sgS} : sg_row τ 21 (sh3 (τ.1 21) 3) = τ := by
  refine Prod.ext (funext fun j => funext fun q => ?_) rfl
  rw [row_get]
  unfold sh3
  by_cases h : j = 21
  · rw [if_pos h, if_neg (by omega), h]
  · rw [if_neg h]
theorem pd_shift {N : Nat} {τ : sgS} (hN : 10000 ≤ N) : sg_lp (fun x : sgS × Int32 => f_X12_passDay_L18 N x.2 x.1) N ((τ, 3)) = some (.inr (sg_row τ 21 (sh3 (τ.1 21) 180))) := by
  have key := lp_for (b := fun x : sgS × Int32 => f_X12_passDay_L18 N x.2 x.1) (fun k => (sg_row τ 21 (sh3 (τ.1 21) (k + 3)), nI (k + 3))) 177 (sg_row τ 21 (sh3 (τ.1 21) 180)) (fun k hk => by
    show f_X12_passDay_L18 N (nI (k + 3)) (sg_row τ 21 (sh3 (τ.1 21) (k + 3))) = some (.inr (.inl (sg_row τ 21 (sh3 (τ.1 21) (k + 1 + 3)), nI (k + 1 + 3))))
    unfold f_X12_passDay_L18
    have e1 : (sg_row τ 21 (sh3 (τ.1 21) (k + 3))).1 21 (35 + (k + 3)) = τ.1 21 (35 + (k + 3)) := by
      rw [sg_row_at]; unfold sh3; rw [if_neg (by omega)]
    have e2 := sh3_s (τ := τ) (g := τ.1 21) (k := k + 3) (by omega)
    simp (disch := omega) only [sg_cr, sg_cl, sg_lb, sg_pf, sg_pl, sg_nz, sg_nzl, sg_nar0, sg_nar1, lt_T, lt_F, le_T, le_F, eq_T, eq_F, ltL_T, ltL_F, leL_T, leL_F, eqL_T, eqL_F, Llt_T, Llt_F, Lle_T, Lle_F, Leq_T, Leq_F, n10_F, n01_F, le0_F, lt0_T, le0_T, eq0_F, lt1_F, nJ_not_neg, nJ_ne_neg, nJ_neg_lt, nJ_neg_le, nJ_le_neg, ↓reduceIte, ld_ok, st_ok, rf_ok, ld_okL, st_okL, nJ_add, nJ_addL, nJ_Ladd, nJ_mul, nJ_mulL, nJ_Lmul, nJ_subL, e1, e2]) (by
    show f_X12_passDay_L18 N (nI 180) _ = _
    unfold f_X12_passDay_L18
    rw [if_pos (by decide)]) N 0 (by omega) (by omega)
  have key : sg_lp (fun x : sgS × Int32 => f_X12_passDay_L18 N x.2 x.1) N ((sg_row τ 21 (sh3 (τ.1 21) 3), 3)) = _ := key
  rw [sh3_0] at key
  exact key
theorem passDay_M {N : Nat} {A : Abs} {τ : sgS} (hN : 10000 ≤ N) (ok : okA A) (h0 : cP (aK A) ≠ 0) (hd : sD (aS A) < 999) (M : RelM A τ) : ∃ τ', f_X12_passDay N τ = some (0, τ') ∧ RelM (dA A) τ' := by
  have okY4 : wN (aY A) ≤ 4 := ok.2.2.2.1.1
  have gM := RelM_iff.mp M
  have hs4 := ok.2.1.2.2.1
  have hr12 := ok.2.1.2.1
  have hp7 := ok.2.1.1
  obtain ⟨d1, d2, d3, d4⟩ := dayA_ok (W := aL A) ok.2.1 ok.2.2.2.1 (ok.2.2.2.2.2.1 h0)
  obtain ⟨τ1, e1, s1, c1, f1⟩ := live_ok (N := N) hN ok.2.1 ok.2.2.1 ok.2.2.2.1 h0 gM.2.1 gM.2.2.1 gM.2.2.2.1 (gM.2.2.2.2.1.1 h0) (ok.2.2.2.2.2.1 h0) (by omega)
  obtain ⟨l1, l2⟩ := gM.2.2.2.2.1.2.2
  have g21 : ∀ q, 34 ≤ q → τ1.1 21 q = τ.1 21 q := fun q hq => f1 21 q (by unfold liM mlM meM goM; omega)
  have f1' : Fr pE τ τ1 := f1.mono (fun j k h => by unfold liM mlM meM goM at h; unfold pE scM; omega)
  have hK30 : τ1.1 0 30 = nI (cS (aK A)) := by rw [f1 0 30 (by unfold liM mlM meM goM; omega)]; exact gM.2.1.2.2.1
  -- the end, where n rows are there
  have last : ∀ (τ2 : sgS) (n : Nat), n < 60 → τ2.1 21 34 = nI n → (∀ q, q < 34 → τ2.1 21 q = τ1.1 21 q) → (∀ j, j ≠ 21 → τ2.1 j = τ1.1 j) → f_X12_passDay_B62 N τ2 = some (0, sg_up (sg_up (sg_up (sg_up τ2 21 (35 + 3 * n) (nI (dayC (aK A) (aL A) (aY A) (aS A)))) 21 (35 + 3 * n + 1) (nI (onB (dS A) (cS (aK A))))) 21 (35 + 3 * n + 2) (nI (sX (aS A)))) 21 34 (nI (n + 1))) := by
    intro τ2 n hn e34 g1 g2
    have c2 : τ2.1 0 40 = nI (dayC (aK A) (aL A) (aY A) (aS A)) := by rw [g2 0 (by decide)]; exact c1
    have w2 := onWay_ok (N := N) (τ := sg_up τ2 21 (35 + 3 * n) (nI (dayC (aK A) (aL A) (aY A) (aS A)))) hN ok.2.1 d1 okY4 (by rw [up_ne (by decide), g2 0 (by decide)]; exact hK30) (fun w hw => by rw [up_nk (by omega), g1 _ (by omega)]; exact s1.2.1 w hw)
    have x2 : τ2.1 21 31 = nI (sX (aS A)) := by rw [g1 31 (by decide), s1.2.2.2.2.2.1, d2]
    unfold f_X12_passDay_B62
    simp (disch := omega) only [sg_cr, sg_cl, sg_lb, sg_pf, sg_pl, sg_nz, sg_nzl, sg_nar0, sg_nar1, lt_T, lt_F, le_T, le_F, eq_T, eq_F, ltL_T, ltL_F, leL_T, leL_F, eqL_T, eqL_F, Llt_T, Llt_F, Lle_T, Lle_F, Leq_T, Leq_F, n10_F, n01_F, le0_F, lt0_T, le0_T, eq0_F, lt1_F, nJ_not_neg, nJ_ne_neg, nJ_neg_lt, nJ_neg_le, nJ_le_neg, ↓reduceIte, ld_ok, st_ok, rf_ok, ld_okL, st_okL, nJ_add, nJ_addL, nJ_Ladd, nJ_mul, nJ_mulL, nJ_Lmul, e34, c2, w2, up_nk, x2]
    rfl
  have rest : ∀ (τ2 : sgS) (n : Nat), n < 60 → n + 1 = min 60 (sD (aS A) + 1) → τ2.1 21 34 = nI n → (∀ q, q < 34 → τ2.1 21 q = τ1.1 21 q) → (∀ j, j ≠ 21 → τ2.1 j = τ1.1 j) → (∀ i, i < n → ∀ j, j < 3 → τ2.1 21 (35 + 3 * (n - 1 - i) + j) = aG A (sD (aS A) - i) j) → RelM (dA A) (sg_up (sg_up (sg_up (sg_up τ2 21 (35 + 3 * n) (nI (dayC (aK A) (aL A) (aY A) (aS A)))) 21 (35 + 3 * n + 1) (nI (onB (dS A) (cS (aK A))))) 21 (35 + 3 * n + 2) (nI (sX (aS A)))) 21 34 (nI (n + 1))) := by
    intro τ2 n hn hm e34 g1 g2 g3
    have f2 : Fr pE τ1 τ2 := fun j k hj => by rw [g2 j (by unfold pE at hj; omega)]
    have fM : Fr pE τ (sg_up (sg_up (sg_up (sg_up τ2 21 (35 + 3 * n) (nI (dayC (aK A) (aL A) (aY A) (aS A)))) 21 (35 + 3 * n + 1) (nI (onB (dS A) (cS (aK A))))) 21 (35 + 3 * n + 2) (nI (sX (aS A)))) 21 34 (nI (n + 1))) := ((((f1'.tr f2).tr (Fr.up (Or.inr rfl))).tr (Fr.up (Or.inr rfl))).tr (Fr.up (Or.inr rfl))).tr (Fr.up (Or.inr rfl))
    have lo : ∀ q, q < 34 → (sg_up (sg_up (sg_up (sg_up τ2 21 (35 + 3 * n) (nI (dayC (aK A) (aL A) (aY A) (aS A)))) 21 (35 + 3 * n + 1) (nI (onB (dS A) (cS (aK A))))) 21 (35 + 3 * n + 2) (nI (sX (aS A)))) 21 34 (nI (n + 1))).1 21 q = τ1.1 21 q := fun q hq => by rw [up_nk (by omega), up_nk (by omega), up_nk (by omega), up_nk (by omega), g1 q hq]
    refine RelM_iff.mpr ⟨(gMT_fr fM (fun j k hx => by unfold xMT at hx; (try unfold pD); (try unfold pE); (try unfold scC); (try unfold scM); omega) rfl gM.1), (gMK_fr fM (fun j k hx => by unfold xMK at hx; (try unfold pD); (try unfold pE); (try unfold scC); (try unfold scM); omega) rfl gM.2.1), (gML_fr fM (fun j k hx => by unfold xML at hx; (try unfold pD); (try unfold pE); (try unfold scC); (try unfold scM); omega) rfl gM.2.2.1), (gMY_fr fM (fun j k hx => by unfold xMY at hx; (try unfold pD); (try unfold pE); (try unfold scC); (try unfold scM); omega) rfl gM.2.2.2.1), ⟨fun _ => ?_, ?_, ?_⟩, ?_, (gMI_fr fM (fun j k hx => by unfold xMI at hx; (try unfold pD); (try unfold pE); (try unfold scC); (try unfold scM); omega) rfl rfl gM.2.2.2.2.2.2.1), (gMV_fr fM (fun j k hx => by unfold xMV at hx; (try unfold pD); (try unfold pE); (try unfold scC); (try unfold scM); omega) rfl gM.2.2.2.2.2.2.2.1), (gMF_fr fM (fun j k hx => by unfold xMF at hx; (try unfold pD); (try unfold pE); (try unfold scC); (try unfold scM); omega) rfl gM.2.2.2.2.2.2.2.2.1), (gMR_fr fM (fun j k hx => by unfold xMR at hx; (try unfold pD); (try unfold pE); (try unfold scC); (try unfold scM); omega) rfl gM.2.2.2.2.2.2.2.2.2)⟩
    · show MS (aK A) (dS A) _
      obtain ⟨h1, h2, h3, h4, h5, h6, h7, h8⟩ := s1
      exact ⟨fun w hw => by rw [lo _ (by omega)]; exact h1 w hw, fun w hw => by rw [lo _ (by omega)]; exact h2 w hw, fun w hw => by rw [lo _ (by omega)]; exact h3 w hw, fun w hw => by rw [lo _ (by omega)]; exact h4 w hw, fun w hw => by rw [lo _ (by omega)]; exact h5 w hw, by rw [lo _ (by omega)]; exact h6, by rw [lo _ (by omega)]; exact h7, by rw [lo _ (by omega)]; exact h8⟩
    · rw [lo 33 (by decide)]
      show _ = nI (sD (dayA _ _ _ _))
      exact s1.2.2.2.2.2.2.2
    · show MLg (dG A) (sD (dayA _ _ _ _)) _
      rw [d3]
      refine ⟨by rw [up_at, hm], fun i hi j hj => ?_⟩
      rw [← hm] at hi ⊢
      rw [Nat.add_sub_cancel, up_nk (by omega), up_get, up_get, up_get]
      unfold dG lgN
      by_cases c : i = 0
      · subst c
        rw [if_pos (show sD (aS A) + 1 - 0 = sD (aS A) + 1 from rfl)]
        rcases j with _ | _ | _ | j
        · rw [if_neg (by omega), if_neg (by omega), if_pos ⟨rfl, rfl⟩, if_pos rfl]
        · rw [if_neg (by omega), if_pos ⟨rfl, rfl⟩, if_neg (by decide), if_pos rfl]
        · rw [if_pos ⟨rfl, rfl⟩, if_neg (by decide), if_neg (by decide)]
        · omega
      · rw [if_neg (by omega), if_neg (by omega), if_neg (by omega), if_neg (by omega)]
        have := g3 (i - 1) (by omega) j hj
        rw [show n - 1 - (i - 1) = n - i by omega, show sD (aS A) - (i - 1) = sD (aS A) + 1 - i by omega] at this
        exact this
    · obtain ⟨q1, q2⟩ := (gM.2.2.2.2.2.1 : MPast A τ)
      have e25 : ∀ k, (sg_up (sg_up (sg_up (sg_up τ2 21 (35 + 3 * n) (nI (dayC (aK A) (aL A) (aY A) (aS A)))) 21 (35 + 3 * n + 1) (nI (onB (dS A) (cS (aK A))))) 21 (35 + 3 * n + 2) (nI (sX (aS A)))) 21 34 (nI (n + 1))).1 25 k = τ.1 25 k := fun k => fM 25 k (by unfold pE scM; omega)
      refine ⟨(fM 0 42 (by unfold pE scM; omega)).trans q1, fun a ha => ?_⟩
      have ha : a < aN A := ha
      show MS (aK A) (aH A a) _ ∧ MLg (dG A) (sD (aH A a)) _
      simp only [e25]
      refine ⟨(q2 a ha).1, (q2 a ha).2.1, fun i hi j hj => ?_⟩
      rw [(q2 a ha).2.2 i hi j hj]
      unfold dG lgN
      have := aD_mono ok a (aN A) (by omega) (Nat.le_refl _)
      rw [aD_now, aD_lt ha] at this
      rw [if_neg (by omega)]
  have e34 : τ1.1 21 34 = nI (min 60 (sD (aS A))) := by rw [g21 34 (by decide)]; exact l1
  unfold f_X12_passDay
  rw [e1]
  simp only [sg_cl]
  rw [ld_okL (by decide) (by decide), e34]
  by_cases c : sD (aS A) < 60
  · rw [if_neg (by rw [nJ_eqL (by omega) (by decide)]; omega), last τ1 (sD (aS A)) c (by rw [e34, Nat.min_eq_right (by omega)]) (fun _ _ => rfl) (fun _ _ => rfl)]
    refine ⟨_, rfl, rest τ1 (sD (aS A)) c (by omega) (by rw [e34, Nat.min_eq_right (by omega)]) (fun _ _ => rfl) (fun _ _ => rfl) (fun i hi j hj => ?_)⟩
    rw [g21 _ (by omega)]
    have := l2 i (by omega) j hj
    rw [Nat.min_eq_right (by omega)] at this
    exact this
  · have e60 : min 60 (sD (aS A)) = 60 := by omega
    rw [if_pos (by rw [e60]; rfl), pd_shift hN]
    have q34 : (sg_row τ1 21 (sh3 (τ1.1 21) 180)).1 21 34 = nI 60 := by rw [sg_row_at]; unfold sh3; rw [if_neg (by omega), e34, e60]
    have ev : ∀ r, f_X12_passDay_B62 N (sg_up (sg_row τ1 21 (sh3 (τ1.1 21) 180)) 21 34 (nI 59)) = r → (sg_lb (some (.inr (sg_row τ1 21 (sh3 (τ1.1 21) 180))) : Option ((Int32 × sgS) ⊕ sgS)) (fun r => some r) fun y14 => sg_ld y14 21 215 34 fun v15 => sg_st y14 21 215 34 (v15 - 1) fun s16 => f_X12_passDay_B62 N s16) = r := by
      intro r hr
      simp (disch := omega) only [sg_lb, sg_cr, sg_cl, sg_lb, sg_pf, sg_pl, sg_nz, sg_nzl, sg_nar0, sg_nar1, lt_T, lt_F, le_T, le_F, eq_T, eq_F, ltL_T, ltL_F, leL_T, leL_F, eqL_T, eqL_F, Llt_T, Llt_F, Lle_T, Lle_F, Leq_T, Leq_F, n10_F, n01_F, le0_F, lt0_T, le0_T, eq0_F, lt1_F, nJ_not_neg, nJ_ne_neg, nJ_neg_lt, nJ_neg_le, nJ_le_neg, ↓reduceIte, ld_ok, st_ok, rf_ok, ld_okL, st_okL, nJ_add, nJ_addL, nJ_Ladd, nJ_mul, nJ_mulL, nJ_Lmul, q34]
      exact hr
    have p1 : (sg_up (sg_row τ1 21 (sh3 (τ1.1 21) 180)) 21 34 (nI 59)).1 21 34 = nI 59 := up_at
    have p2 : ∀ q, q < 34 → (sg_up (sg_row τ1 21 (sh3 (τ1.1 21) 180)) 21 34 (nI 59)).1 21 q = τ1.1 21 q := fun q hq => by rw [up_nk (by omega), sg_row_at]; unfold sh3; rw [if_neg (by omega)]
    have p3 : ∀ j, j ≠ 21 → (sg_up (sg_row τ1 21 (sh3 (τ1.1 21) 180)) 21 34 (nI 59)).1 j = τ1.1 j := fun j hj => by rw [up_ne hj, sg_row_nt hj]
    refine ⟨_, ev _ (last _ 59 (by decide) p1 p2 p3), rest _ 59 (by decide) (by omega) p1 p2 p3 (fun i hi j hj => ?_)⟩
    rw [up_nk (by omega), sg_row_at]
    unfold sh3
    rw [if_pos (by omega), g21 _ (by omega)]
    have := l2 i (by omega) j hj
    rw [e60] at this
    rw [show 35 + 3 * (59 - 1 - i) + j + 3 = 35 + 3 * (60 - 1 - i) + j by omega]
    exact this
def itD (A : Abs) : Nat → Abs
  | 0 => A
  | n + 1 => dA (kP (itD A n))
theorem dA_day {A : Abs} (ok : okA A) (h0 : cP (aK A) ≠ 0) : sD (aS (dA A)) = sD (aS A) + 1 := (dayA_ok (W := aL A) ok.2.1 ok.2.2.2.1 (ok.2.2.2.2.2.1 h0)).2.2.1
theorem itD_ok {A : Abs} (ok : okA A) (h0 : cP (aK A) ≠ 0) : ∀ n, sD (aS A) + n ≤ 999 → okA (itD A n) ∧ aK (itD A n) = aK A ∧ sD (aS (itD A n)) = sD (aS A) + n := by
  intro n
  induction n with
  | zero => intro _; exact ⟨ok, rfl, rfl⟩
  | succ n ih =>
    intro hn
    obtain ⟨i1, i2, i3⟩ := ih (by omega)
    have h1 : cP (aK (itD A n)) ≠ 0 := by rw [i2]; exact h0
    have k1 := kP_ok i1 h1
    refine ⟨dA_ok k1 h1 (kP_pre i1) (by show sD (aS (itD A n)) < 999; omega), i2, ?_⟩
    show sD (aS (dA (kP (itD A n)))) = _
    rw [dA_day k1 h1]
    show sD (aS (itD A n)) + 1 = _
    omega
theorem lw_O10_ok : lw_O10 Rel := by
  intro a1
  refine rw_eq (fun A σ τ ok C M => ⟨10000, 10000, ?_⟩)
  have gC := RelC_iff.mp C
  have gM := RelM_iff.mp M
  have hp : cP (aK A) ≤ 7 := ok.2.1.1
  have hd9 : sD (aS A) ≤ 999 := ok.2.2.2.2.2.2.2.1
  have eC : CK (aK A) σ := gC.2.1
  have eM : MK (aK A) τ := gM.2.1
  have ref : ∀ w, w < 5 → ∃ r σ' τ' A', (sg_cl (f_X11_refuse 10000 (nI w) σ) fun v s => some (v, s)) = some (r, σ') ∧ f_X12_days_B39 10000 a1 (nI w) τ = some (r, τ') ∧ okA A' ∧ RelC A' σ' ∧ RelM A' τ' := by
    intro w hw
    obtain ⟨σ', τ', h1, h2, h3, h4, h5⟩ := refused_eq (N := 10000) (w := w) ok C M hw
    refine ⟨-1, σ', τ', rA A w, by rw [h1]; rfl, ?_, h3, h4, h5⟩
    unfold f_X12_days_B39
    rw [h2]; rfl
  unfold f_X11_days f_X12_days
  by_cases h0 : cP (aK A) = 0
  · rw [isTold_n (by rw [eC.1, h0]), if_pos (show τ.1 0 28 = 0 from by rw [eM.1, h0]; rfl)]
    exact ref 0 (by decide)
  · rw [isTold_y eC.1 h0 (by omega), if_neg (show ¬ τ.1 0 28 = 0 from by rw [eM.1, eq0_F (by omega) (by omega)]; exact id)]
    simp only [sg_cr]
    rw [if_neg (by decide)]
    have e37 : σ.1 37 7 = nI (sD (aS A)) := gC.2.2.2.2.1.2.1
    have e33 : τ.1 21 33 = nI (sD (aS A)) := gM.2.2.2.2.1.2.1
    rw [show (60 : Int32) = nI 60 from rfl]
    unfold f_X12_areDays
    rw [show (60 : Int32) = nI 60 from rfl]
    rcases rng1 a1 60 (by decide) with ⟨k, hk1, hk2, rfl⟩ | h
    · rw [in_1y hk1 hk2 (by decide), e37, ld_okL (by decide) (by decide), e33, nJ_add]
      by_cases hc : sD (aS A) + k ≤ 999
      · simp (disch := omega) only [sg_cr, sg_cl, sg_lb, sg_pf, sg_pl, sg_nz, sg_nzl, sg_nar0, sg_nar1, lt_T, lt_F, le_T, le_F, eq_T, eq_F, ltL_T, ltL_F, leL_T, leL_F, eqL_T, eqL_F, Llt_T, Llt_F, Lle_T, Lle_F, Leq_T, Leq_F, n10_F, n01_F, le0_F, lt0_T, le0_T, eq0_F, lt1_F, nJ_not_neg, nJ_ne_neg, nJ_neg_lt, nJ_neg_le, nJ_le_neg, ↓reduceIte, ld_ok, st_ok, rf_ok, ld_okL, st_okL, nJ_add, nJ_addL, nJ_Ladd, nJ_mul, nJ_mulL, nJ_Lmul]
        obtain ⟨σ', e1, C1⟩ := lp_st (b := fun x : sgS × Int32 => f_X11_days_L56 10000 (nI k) x.2 x.1) (n := k) (fun i s => RelC (itD A i) s) (by
          intro i s hi C2
          obtain ⟨i1, i2, i3⟩ := itD_ok ok h0 i (by omega)
          have h1 : cP (aK (itD A i)) ≠ 0 := by rw [i2]; exact h0
          obtain ⟨s1, g1, C3⟩ := remember_ok (N := 10000) i1 h1 C2
          obtain ⟨s2, g2, C4⟩ := passDay_C (N := 10000) (by decide) (kP_ok i1 h1) h1 (by show sD (aS (itD A i)) < 999; omega) C3
          refine ⟨s2, ?_, C4⟩
          show f_X11_days_L56 10000 (nI k) (nI i) s = _
          unfold f_X11_days_L56
          simp (disch := omega) only [sg_cr, sg_cl, sg_lb, sg_pf, sg_pl, sg_nz, sg_nzl, sg_nar0, sg_nar1, lt_T, lt_F, le_T, le_F, eq_T, eq_F, ltL_T, ltL_F, leL_T, leL_F, eqL_T, eqL_F, Llt_T, Llt_F, Lle_T, Lle_F, Leq_T, Leq_F, n10_F, n01_F, le0_F, lt0_T, le0_T, eq0_F, lt1_F, nJ_not_neg, nJ_ne_neg, nJ_neg_lt, nJ_neg_le, nJ_le_neg, ↓reduceIte, ld_ok, st_ok, rf_ok, ld_okL, st_okL, nJ_add, nJ_addL, nJ_Ladd, nJ_mul, nJ_mulL, nJ_Lmul, g1, g2]) (by
          intro s _
          show f_X11_days_L56 10000 (nI k) (nI k) s = _
          unfold f_X11_days_L56
          simp (disch := omega) only [sg_cr, sg_cl, sg_lb, sg_pf, sg_pl, sg_nz, sg_nzl, sg_nar0, sg_nar1, lt_T, lt_F, le_T, le_F, eq_T, eq_F, ltL_T, ltL_F, leL_T, leL_F, eqL_T, eqL_F, Llt_T, Llt_F, Lle_T, Lle_F, Leq_T, Leq_F, n10_F, n01_F, le0_F, lt0_T, le0_T, eq0_F, lt1_F, nJ_not_neg, nJ_ne_neg, nJ_neg_lt, nJ_neg_le, nJ_le_neg, ↓reduceIte, ld_ok, st_ok, rf_ok, ld_okL, st_okL, nJ_add, nJ_addL, nJ_Ladd, nJ_mul, nJ_mulL, nJ_Lmul]) 10000 0 σ (by omega) (by omega) C
        obtain ⟨τ', e2, M1⟩ := lp_st (b := fun x : sgS × Int32 => f_X12_days_L49 10000 (nI k) x.2 x.1) (n := k) (fun i s => RelM (itD A i) s) (by
          intro i s hi C2
          obtain ⟨i1, i2, i3⟩ := itD_ok ok h0 i (by omega)
          have h1 : cP (aK (itD A i)) ≠ 0 := by rw [i2]; exact h0
          obtain ⟨s1, g1, C3⟩ := keep_ok (N := 10000) (by decide) i1 h1 C2
          obtain ⟨s2, g2, C4⟩ := passDay_M (N := 10000) (by decide) (kP_ok i1 h1) h1 (by show sD (aS (itD A i)) < 999; omega) C3
          refine ⟨s2, ?_, C4⟩
          show f_X12_days_L49 10000 (nI k) (nI i) s = _
          unfold f_X12_days_L49
          simp (disch := omega) only [sg_cr, sg_cl, sg_lb, sg_pf, sg_pl, sg_nz, sg_nzl, sg_nar0, sg_nar1, lt_T, lt_F, le_T, le_F, eq_T, eq_F, ltL_T, ltL_F, leL_T, leL_F, eqL_T, eqL_F, Llt_T, Llt_F, Lle_T, Lle_F, Leq_T, Leq_F, n10_F, n01_F, le0_F, lt0_T, le0_T, eq0_F, lt1_F, nJ_not_neg, nJ_ne_neg, nJ_neg_lt, nJ_neg_le, nJ_le_neg, ↓reduceIte, ld_ok, st_ok, rf_ok, ld_okL, st_okL, nJ_add, nJ_addL, nJ_Ladd, nJ_mul, nJ_mulL, nJ_Lmul, g1, g2]) (by
          intro s _
          show f_X12_days_L49 10000 (nI k) (nI k) s = _
          unfold f_X12_days_L49
          simp (disch := omega) only [sg_cr, sg_cl, sg_lb, sg_pf, sg_pl, sg_nz, sg_nzl, sg_nar0, sg_nar1, lt_T, lt_F, le_T, le_F, eq_T, eq_F, ltL_T, ltL_F, leL_T, leL_F, eqL_T, eqL_F, Llt_T, Llt_F, Lle_T, Lle_F, Leq_T, Leq_F, n10_F, n01_F, le0_F, lt0_T, le0_T, eq0_F, lt1_F, nJ_not_neg, nJ_ne_neg, nJ_neg_lt, nJ_neg_le, nJ_le_neg, ↓reduceIte, ld_ok, st_ok, rf_ok, ld_okL, st_okL, nJ_add, nJ_addL, nJ_Ladd, nJ_mul, nJ_mulL, nJ_Lmul]) 10000 0 τ (by omega) (by omega) M
        refine ⟨nI (sD (aS (itD A k))), σ', τ', itD A k, ?_, ?_, (itD_ok ok h0 k hc).1, C1, M1⟩
        · have e1 : sg_lp (fun x : sgS × Int32 => f_X11_days_L56 10000 (nI k) x.2 x.1) 10000 ((σ, 0)) = _ := e1
          rw [e1]
          simp only [sg_lb]
          rw [show σ'.1 37 7 = nI (sD (aS (itD A k))) from (RelC_iff.mp C1).2.2.2.2.1.2.1]
        · unfold f_X12_days_B39
          have e2 : sg_lp (fun x : sgS × Int32 => f_X12_days_L49 10000 (nI k) x.2 x.1) 10000 ((τ, 0)) = _ := e2
          rw [isRefused_no]
          simp only [sg_cl, ↓reduceIte]
          rw [e2]
          simp only [sg_lb]
          rw [ld_okL (by decide) (by decide), show τ'.1 21 33 = nI (sD (aS (itD A k))) from (RelM_iff.mp M1).2.2.2.2.1.2.1]
      · simp (disch := omega) only [sg_cr, sg_cl, sg_lb, sg_pf, sg_pl, sg_nz, sg_nzl, sg_nar0, sg_nar1, lt_T, lt_F, le_T, le_F, eq_T, eq_F, ltL_T, ltL_F, leL_T, leL_F, eqL_T, eqL_F, Llt_T, Llt_F, Lle_T, Lle_F, Leq_T, Leq_F, n10_F, n01_F, le0_F, lt0_T, le0_T, eq0_F, lt1_F, nJ_not_neg, nJ_ne_neg, nJ_neg_lt, nJ_neg_le, nJ_le_neg, ↓reduceIte, ld_ok, st_ok, rf_ok, ld_okL, st_okL, nJ_add, nJ_addL, nJ_Ladd, nJ_mul, nJ_mulL, nJ_Lmul]
        exact ref 4 (by decide)
    · rw [in_1n h]
      simp only [sg_cr, ↓reduceIte]
      by_cases h1 : a1 < 1
      · simp only [h1, ↓reduceIte]; exact ref 1 (by decide)
      · rw [if_neg h1, if_neg (by rw [Int32.not_le]; exact h.resolve_left h1)]; exact ref 1 (by decide)
