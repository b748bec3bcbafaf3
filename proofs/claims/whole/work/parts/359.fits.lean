/-! AS TOLD; FITS, ASK -/
def begS (K : Cty) : Sta := ((cT K, fun _ => 0, fun _ => 0, fun _ => 0, fun _ => 0), 0, cC K, 0)
theorem begS_ok {K : Cty} {Y : Wys} (okk : okK K) (h0 : cP K ≠ 0) : okS K Y (begS K) := by
  have hb := okk.2.2.2.2.1 h0
  refine ⟨fun w hw => ⟨okk.2.2.2.2.2.2.2 w hw, Nat.zero_le _, fun _ => rfl, fun h => absurd rfl h⟩, fun _ _ _ => rfl, fun _ _ => Nat.zero_le _, fun _ _ => Nat.zero_le _, Nat.two_pow_pos _, ?_⟩
  show cC K ≤ 999
  omega
theorem begin_ok {N o : Nat} {K : Cty} {σ : sgS} (hN : 10000 ≤ N) (okk : okK K) (h0 : cP K ≠ 0) (ho : 10 ≤ o) (hK : CK K σ) : ∃ σ', f_X8_begin N o 3 σ = some (0, σ') ∧ CS K (begS K) o σ' ∧ Fr (pb o (o + 5)) σ σ' := by
  have hp7 := okk.1
  have hr12 := okk.2.1
  have hs4 := okk.2.2.1
  have kp : ∀ {s}, Fr (pb o (o + 5)) σ s → CK K s := fun {s} f => CK_fr hK (fun j a b => funext fun q => f j q (by unfold pb; omega))
  obtain ⟨σ1, e1, F1, A1⟩ := lp_st (b := fun x : sgS × Int32 => f_X8_begin_L2 N o 3 x.2 x.1) (n := 4) (fun k s => Fr (pb o (o + 5)) σ s ∧ ∀ w, w < k → (w < cS K → s.1 (o + 1) w = nI (cT K w)) ∧ s.1 (o + 2) w = wI 0 ∧ s.1 (o + 3) w = nI 0) (by
    rintro k s hk ⟨g1, g2⟩
    refine ⟨sg_up (sg_up (sg_up s (o + 1) k (s.1 9 k)) (o + 2) k (wI 0)) (o + 3) k (nI 0), ?_, ((g1.tr (Fr.up (by unfold pb; omega))).tr (Fr.up (by unfold pb; omega))).tr (Fr.up (by unfold pb; omega)), fun w hw => ?_⟩
    · show f_X8_begin_L2 N o 3 (nI k) s = _
      unfold f_X8_begin_L2 f_X8_takeWay
      rw [if_neg (by rw [nJ_Lle (by omega) (by decide)]; omega), ld_ok (by omega) (by decide), st_ok (by omega) (by decide), st_ok (by omega) (by decide), st_ok (by omega) (by decide), cl_some, nJ_addL]
      rfl
    · by_cases c : w = k
      · subst c
        refine ⟨fun hw2 => ?_, ?_, up_at⟩
        · rw [up_ne (by omega), up_ne (by omega), up_at]
          exact (kp g1).2.2.2.2.2.2 w hw2
        · rw [up_ne (by omega), up_at]
      · have := g2 w (by omega)
        refine ⟨fun hw2 => ?_, ?_, ?_⟩
        · rw [up_ne (by omega), up_ne (by omega), up_nk c]; exact this.1 hw2
        · rw [up_ne (by omega), up_nk c, up_ne (by omega)]; exact this.2.1
        · rw [up_nk c, up_ne (by omega), up_ne (by omega)]; exact this.2.2) (by
    intro s _
    show f_X8_begin_L2 N o 3 (nI 4) s = _
    unfold f_X8_begin_L2
    rw [if_pos (by decide)]) N 0 σ (by omega) (by omega) ⟨Fr.rf, fun w h => absurd h (Nat.not_lt_zero _)⟩
  obtain ⟨σ2, e2, F2, A2, B2⟩ := lp_st (b := fun x : sgS × Int32 => f_X8_begin_L32 N o 3 x.2 x.1) (n := 12) (fun k s => Fr (pb o (o + 5)) σ s ∧ (∀ j, j ≠ o + 4 → s.1 j = σ1.1 j) ∧ ∀ w, w < k → s.1 (o + 4) w = nI 0) (by
    rintro k s hk ⟨g1, g2, g3⟩
    refine ⟨sg_up s (o + 4) k 0, ?_, g1.tr (Fr.up (by unfold pb; omega)), fun j hj => by rw [up_ne hj]; exact g2 j hj, fun w hw => ?_⟩
    · show f_X8_begin_L32 N o 3 (nI k) s = _
      unfold f_X8_begin_L32
      rw [if_neg (by rw [nJ_Lle (by omega) (by decide)]; omega), st_ok (by omega) (by decide), nJ_addL]
    · by_cases c : w = k
      · subst c; rw [up_at]; rfl
      · rw [up_nk c]; exact g3 w (by omega)) (by
    intro s _
    show f_X8_begin_L32 N o 3 (nI 12) s = _
    unfold f_X8_begin_L32
    rw [if_pos (by decide)]) N 0 σ1 (by omega) (by omega) ⟨F1, fun _ _ => rfl, fun w h => absurd h (Nat.not_lt_zero _)⟩
  obtain ⟨σ3, e3, F3, A3, B3⟩ := lp_st (b := fun x : sgS × Int32 => f_X8_begin_L53 N o 3 x.2 x.1) (n := 7) (fun k s => Fr (pb o (o + 5)) σ s ∧ (∀ j, j ≠ o + 5 → s.1 j = σ2.1 j) ∧ ∀ w, w < k → s.1 (o + 5) w = nI 0) (by
    rintro k s hk ⟨g1, g2, g3⟩
    refine ⟨sg_up s (o + 5) k 0, ?_, g1.tr (Fr.up (by unfold pb; omega)), fun j hj => by rw [up_ne hj]; exact g2 j hj, fun w hw => ?_⟩
    · show f_X8_begin_L53 N o 3 (nI k) s = _
      unfold f_X8_begin_L53
      rw [if_neg (by rw [nJ_Lle (by omega) (by decide)]; omega), st_ok (by omega) (by decide), nJ_addL]
    · by_cases c : w = k
      · subst c; rw [up_at]; rfl
      · rw [up_nk c]; exact g3 w (by omega)) (by
    intro s _
    show f_X8_begin_L53 N o 3 (nI 7) s = _
    unfold f_X8_begin_L53
    rw [if_pos (by decide)]) N 0 σ2 (by omega) (by omega) ⟨F2, fun _ _ => rfl, fun w h => absurd h (Nat.not_lt_zero _)⟩
  refine ⟨sg_up (sg_up (sg_up σ3 o 5 0) o 6 (nI (cC K))) o 7 0, ?_, ⟨fun w hw => ?_, fun w hw => ?_, fun w hw => ?_, fun k hk => ?_, fun k hk => ?_, ?_, ?_, ?_⟩, ((F3.tr (Fr.up (by unfold pb; omega))).tr (Fr.up (by unfold pb; omega))).tr (Fr.up (by unfold pb; omega))⟩
  · unfold f_X8_begin
    have e1 : sg_lp (fun x : sgS × Int32 => f_X8_begin_L2 N o 3 x.2 x.1) N ((σ, 0)) = _ := e1
    have e2 : sg_lp (fun x : sgS × Int32 => f_X8_begin_L32 N o 3 x.2 x.1) N ((σ1, 0)) = _ := e2
    have e3 : sg_lp (fun x : sgS × Int32 => f_X8_begin_L53 N o 3 x.2 x.1) N ((σ2, 0)) = _ := e3
    rw [e1, lb_inr, e2, lb_inr, e3, lb_inr, pf_eq, pf_eq, pf_eq, up_ne (by omega), ((kp F3).2.2.2.1 h0).2]
  · rw [up_ne (by omega), up_ne (by omega), up_ne (by omega), A3 _ (by omega), A2 _ (by omega)]; exact (A1 w (by omega)).1 hw
  · rw [up_ne (by omega), up_ne (by omega), up_ne (by omega), A3 _ (by omega), A2 _ (by omega)]; exact (A1 w hw).2.1
  · rw [up_ne (by omega), up_ne (by omega), up_ne (by omega), A3 _ (by omega), A2 _ (by omega)]; exact (A1 w (by omega)).2.2
  · rw [up_ne (by omega), up_ne (by omega), up_ne (by omega), A3 _ (by omega)]; exact B2 k (by omega)
  · rw [up_ne (by omega), up_ne (by omega), up_ne (by omega)]; exact B3 k (by omega)
  · rw [up_nk (by decide), up_nk (by decide), up_at]; rfl
  · rw [up_nk (by decide), up_at]; rfl
  · rw [up_at]; rfl
theorem layTold_ok {N : Nat} {K : Cty} {τ : sgS} (hN : 10000 ≤ N) (okk : okK K) (h0 : cP K ≠ 0) (hK : MK K τ) : ∃ τ', f_X12_layTold N τ = some (0, τ') ∧ MS K (begS K) (τ'.1 21) ∧ Fr p21 τ τ' := by
  have hp7 := okk.1
  have hr12 := okk.2.1
  have hs4 := okk.2.2.1
  have kp : ∀ {s}, Fr p21 τ s → MK K s := fun {s} f => MK_fr hK (fun j a b => funext fun q => f j q (by unfold p21; omega)) (fun q a b => f 0 q (by unfold p21; omega))
  obtain ⟨τ1, e1, F1, A1⟩ := lp_st (b := fun x : sgS × Int32 => f_X12_layTold_L2 N x.2 x.1) (n := 34) (fun k s => Fr p21 τ s ∧ ∀ w, w < k → s.1 21 w = nI 0) (by
    rintro k s hk ⟨g1, g2⟩
    refine ⟨sg_up s 21 k 0, ?_, g1.tr (Fr.up (by unfold p21; omega)), fun w hw => ?_⟩
    · show f_X12_layTold_L2 N (nI k) s = _
      unfold f_X12_layTold_L2
      rw [if_neg (by rw [nJ_Lle (by omega) (by decide)]; omega), st_ok (by omega) (by decide), nJ_addL]
    · by_cases c : w = k
      · subst c; rw [up_at]; rfl
      · rw [up_nk c]; exact g2 w (by omega)) (by
    intro s _
    show f_X12_layTold_L2 N (nI 34) s = _
    unfold f_X12_layTold_L2
    rw [if_pos (by decide)]) N 0 τ (by omega) (by omega) ⟨Fr.rf, fun w h => absurd h (Nat.not_lt_zero _)⟩
  obtain ⟨τ2, e2, F2, A2, B2⟩ := lp_st (b := fun x : sgS × Int32 => f_X12_layTold_L23 N x.2 x.1) (n := 4) (fun k s => Fr p21 τ s ∧ (∀ w, 8 ≤ w → w < 34 → s.1 21 w = nI 0) ∧ ∀ w, w < k → s.1 21 w = nI (if w < cS K then cT K w else 0) ∧ s.1 21 (4 + w) = wI 0) (by
    rintro k s hk ⟨g1, g2, g3⟩
    have K1 := kp g1
    have ev : f_X12_layTold_L23 N (nI k) s = some (.inr (.inl (sg_up (sg_up s 21 k (nI (if k < cS K then cT K k else 0))) 21 (4 + k) (wI 0), nI (k + 1)))) := by
      unfold f_X12_layTold_L23 f_X12_layTold_L23_B53
      rw [if_neg (by rw [nJ_Lle (by omega) (by decide)]; omega), K1.2.2.1, nJ_Ladd, nJ_Ladd, Nat.zero_add, nJ_addL]
      by_cases c : k < cS K
      · rw [if_neg (by rw [nJ_le (by omega) (by omega)]; omega), ld_ok (by omega) (by decide), K1.2.2.2.2.2.2 k c, st_ok (by omega) (by decide), st_ok (by omega) (by decide), if_pos c]; rfl
      · rw [if_pos (by rw [nJ_le (by omega) (by omega)]; omega), st_ok (by omega) (by decide), st_ok (by omega) (by decide), if_neg c]; rfl
    refine ⟨_, ev, (g1.tr (Fr.up (by unfold p21; omega))).tr (Fr.up (by unfold p21; omega)), fun w h8 h34 => by rw [up_nk (by omega), up_nk (by omega)]; exact g2 w h8 h34, fun w hw => ?_⟩
    by_cases c : w = k
    · subst c
      exact ⟨by rw [up_nk (by omega), up_at], up_at⟩
    · have := g3 w (by omega)
      exact ⟨by rw [up_nk (by omega), up_nk c]; exact this.1, by rw [up_nk (by omega), up_nk (by omega)]; exact this.2⟩) (by
    intro s _
    show f_X12_layTold_L23 N (nI 4) s = _
    unfold f_X12_layTold_L23
    rw [if_pos (by decide)]) N 0 τ1 (by omega) (by omega) ⟨F1, fun w a b => A1 w b, fun w h => absurd h (Nat.not_lt_zero _)⟩
  have K2 := kp F2
  refine ⟨sg_up τ2 21 32 (nI (cC K)), ?_, ⟨fun w hw => ?_, fun w hw => ?_, fun w hw => ?_, fun k hk => ?_, fun k hk => ?_, ?_, ?_, ?_⟩, F2.tr (Fr.up (by unfold p21; omega))⟩
  · unfold f_X12_layTold
    have e1 : sg_lp (fun x : sgS × Int32 => f_X12_layTold_L2 N x.2 x.1) N ((τ, 0)) = _ := e1
    have e2 : sg_lp (fun x : sgS × Int32 => f_X12_layTold_L23 N x.2 x.1) N ((τ1, 0)) = _ := e2
    rw [e1, lb_inr, e2, lb_inr, show (1 : Int32) = nI 1 from rfl, ld_ok (by decide) (by decide), (K2.2.2.2.1 h0).2, st_okL (by decide) (by decide)]
  · rw [up_nk (by omega), (B2 w (by omega)).1, if_pos hw]; rfl
  · rw [up_nk (by omega)]; exact (B2 w (by omega)).2
  · rw [up_nk (by omega)]; exact A2 _ (by omega) (by omega)
  · rw [up_nk (by omega)]; exact A2 _ (by omega) (by omega)
  · rw [up_nk (by omega)]; exact A2 _ (by omega) (by omega)
  · rw [up_nk (by omega)]; exact A2 _ (by omega) (by omega)
  · rw [up_at]; rfl
  · rw [up_nk (by omega)]; exact A2 _ (by omega) (by omega)
/-- where set w is on its way y behind n days -/
def trS (A : Abs) (w y : Nat) : Sta := setW (begS (aK A)) w (y + 1) 1
def trl (A : Abs) (w y n : Nat) : Nat := sP (itL (aK A) (aL A) (aY A) (trS A w y) n) w
theorem trS_ok {A : Abs} {w y : Nat} (ok : okA A) (h0 : cP (aK A) ≠ 0) (hw : w < cS (aK A)) (hy : y < wN (aY A)) : okS (aK A) (aY A) (trS A w y) := by
  have hb := begS_ok (Y := aY A) ok.2.1 h0
  have hl := ok.2.2.2.1.2 y hy
  refine ⟨fun v hv => ⟨(hb.1 v hv).1, ?_, ?_, ?_⟩, fun v a b => ?_, hb.2.2⟩
  · show (if v = w then y + 1 else 0) ≤ wN (aY A)
    split <;> omega
  · show (if v = w then y + 1 else 0) = 0 → (if v = w then 1 else 0) = 0
    split <;> omega
  · show (if v = w then y + 1 else 0) ≠ 0 → 1 ≤ (if v = w then 1 else 0) ∧ (if v = w then 1 else 0) < wL (aY A) ((if v = w then y + 1 else 0) - 1)
    by_cases c : v = w
    · rw [if_pos c, if_pos c, Nat.add_sub_cancel]; omega
    · rw [if_neg c]; intro z; exact absurd rfl z
  · show (if v = w then y + 1 else 0) = 0
    rw [if_neg (by omega)]
theorem trl_lt {A : Abs} {w y n : Nat} (ok : okA A) (h0 : cP (aK A) ≠ 0) (hw : w < cS (aK A)) (hy : y < wN (aY A)) : trl A w y n < cP (aK A) := ((itL_ok (W := aL A) ok.2.1 ok.2.2.2.1 (trS_ok ok h0 hw hy) n).1.1 w hw).1
theorem follow_ok {A : Abs} {σ s : sgS} {w y : Nat} (ok : okA A) (C : RelC A σ) (h0 : cP (aK A) ≠ 0) (hw : w < cS (aK A)) (hy : y < wN (aY A)) (f : Fr scC σ s) : ∃ s', f_X7_follow 10000 (nI w) (nI y) s = some (0, s') ∧ Fr scC σ s' ∧ (∀ n, 1 ≤ n → n ≤ 9 → s'.1 (326 + y) n = nI (trl A w y n)) ∧ ∀ y', y' < 4 → y' ≠ y → s'.1 (326 + y') = s.1 (326 + y') := by
  have hs4 := ok.2.1.2.2.1
  have hwn := ok.2.2.2.1.1
  obtain ⟨k1, k2, k3⟩ := kC_sc ok (RelC_iff.mp C) f
  obtain ⟨s1, e1, S1, f1⟩ := begin_ok (N := 10000) (o := 43) (by decide) ok.2.1 h0 (by decide) k1
  have S2 := CS_W (w := w) (y := y + 1) (b := 1) S1
  have F2 : Fr scC σ (sg_up (sg_up s1 (43 + 2) w (wI (y + 1))) (43 + 3) w (nI 1)) := ((f.tr (f1.mono (fun j k h => by unfold pb at h; unfold scC; omega))).tr (Fr.up (by unfold scC; omega))).tr (Fr.up (by unfold scC; omega))
  have hit := itL_ok (W := aL A) ok.2.1 ok.2.2.2.1 (trS_ok ok h0 hw hy)
  obtain ⟨s', e, -, F, S3, T, U⟩ := lp_st (b := fun x : sgS × Int32 => f_X7_follow_L22 10000 (nI w) (nI y) x.2 x.1) (n := 10) (fun k u => 1 ≤ k ∧ Fr scC σ u ∧ CS (aK A) (itL (aK A) (aL A) (aY A) (trS A w y) (k - 1)) 43 u ∧ (∀ n, 1 ≤ n → n < k → u.1 (326 + y) n = nI (trl A w y n)) ∧ ∀ y', y' < 4 → y' ≠ y → u.1 (326 + y') = s.1 (326 + y')) (by
    rintro k u hk ⟨g0, g1, g2, g3, g4⟩
    · obtain ⟨i1, i2, i3⟩ := hit (k - 1)
      have hd0 : sD (trS A w y) = 0 := rfl
      obtain ⟨u', e, q1, q2, q3⟩ := passT_ok (N := 10000) (by decide) ok h0 C g1 g2 i1 (by omega)
      refine ⟨sg_up u' (326 + y) k (nI (trl A w y k)), ?_, by omega, q2.tr (Fr.up (by unfold scC; omega)), ?_, fun n h1 h2 => ?_, fun y' h1 h2 => ?_⟩
      · show f_X7_follow_L22 10000 (nI w) (nI y) (nI k) u = _
        have ep : u'.1 (43 + 1) w = nI (trl A w y k) := by
          rw [q1.1 w hw]
          unfold trl
          rw [show k = (k - 1) + 1 by omega]; rfl
        unfold f_X7_follow_L22
        rw [if_neg (by rw [nJ_Llt (by omega) (by decide)]; omega), e, cl_some, rf_ok (by omega) (by decide), ld_ok (by omega) (by decide), ep, st_ok (by omega) (by decide), nJ_addL]
      · rw [show k + 1 - 1 = (k - 1) + 1 by omega]
        exact CS_congr (fun i hi => by rw [up_ne (by omega)]) q1
      · by_cases c : n = k
        · subst c; rw [up_at]
        · rw [up_nk c, q3 (326 + y) n (by unfold daC meC stkC pb; omega)]; exact g3 n h1 (by omega)
      · rw [up_ne (by omega), show u'.1 (326 + y') = u.1 (326 + y') from funext fun q => q3 _ q (by unfold daC meC stkC pb; omega)]; exact g4 y' h1 h2) (by
    intro u _
    show f_X7_follow_L22 10000 (nI w) (nI y) (nI 10) u = _
    unfold f_X7_follow_L22
    rw [if_pos (by decide)]) 10000 1 (sg_up (sg_up s1 (43 + 2) w (wI (y + 1))) (43 + 3) w (nI 1)) (by omega) (by omega) ⟨by decide, F2, S2, fun n a b => by omega, fun y' a b => by
      rw [up_ne (by omega), up_ne (by omega), show s1.1 (326 + y') = s.1 (326 + y') from funext fun q => f1 _ q (by unfold pb; omega)]⟩
  refine ⟨s', ?_, F, fun n a b => T n a (by omega), U⟩
  unfold f_X7_follow f_X8_putTo
  have e : sg_lp (fun x : sgS × Int32 => f_X7_follow_L22 10000 (nI w) (nI y) x.2 x.1) 10000 ((sg_up (sg_up s1 (43 + 2) w (wI (y + 1))) (43 + 3) w (nI 1), 1)) = _ := e
  rw [wI_s] at e
  rw [e1, cl_some, st_ok (by omega) (by decide), st_ok (by omega) (by decide), cl_some, show (1 : Int32) = nI 1 from rfl]
  rw [show sg_lp (fun x : sgS × Int32 => f_X7_follow_L22 10000 (nI w) (nI y) x.2 x.1) 10000 ((sg_up (sg_up s1 (43 + 2) w (nI y)) (43 + 3) w (nI 1), nI 1)) = _ from e, lb_inr]
/-! what was seen -/
def ag1 (A : Abs) (w y i : Nat) : Bool := decide (((aV A).2 i).1 ≠ w) || (decide (trl A w y ((aV A).2 i).2.2.1 = ((aV A).2 i).2.1) == decide (((aV A).2 i).2.2.2 = 1))
def agB (A : Abs) (w y : Nat) : Nat → Bool
  | 0 => true
  | k + 1 => agB A w y k && ag1 A w y k
theorem agB_all {A : Abs} {w y : Nat} : ∀ k, (∀ i, i < k → ag1 A w y i = true) → agB A w y k = true := by
  intro k
  induction k with
  | zero => intro _; rfl
  | succ k ih =>
    intro h
    show (agB A w y k && ag1 A w y k) = true
    rw [ih (fun i hi => h i (by omega)), h k (by omega)]; rfl
theorem agB_no {A : Abs} {w y i : Nat} (h : ag1 A w y i = false) : ∀ k, i < k → agB A w y k = false := by
  intro k
  induction k with
  | zero => intro hk; omega
  | succ k ih =>
    intro hk
    show (agB A w y k && ag1 A w y k) = false
    by_cases c : i = k
    · subst c; rw [h, Bool.and_false]
    · rw [ih (by omega)]; rfl
/-- one that was seen and isn't so, or none -/
theorem ag_first {A : Abs} {w y : Nat} (n : Nat) : (∃ m, m < n ∧ ag1 A w y m = false ∧ ∀ i, i < m → ag1 A w y i = true) ∨ ∀ i, i < n → ag1 A w y i = true := by
  rcases Nat.eq_zero_or_pos n with hz | hz
  · exact Or.inr (fun i hi => by omega)
  · rcases first_of (fun i => ag1 A w y i = false) (fun i => Decidable.em _) (n - 1) with ⟨m, h1, h2, h3⟩ | h
    · exact Or.inl ⟨m, by omega, h2, fun i hi => by rw [← Bool.not_eq_false]; exact h3 i hi⟩
    · exact Or.inr (fun i hi => by rw [← Bool.not_eq_false]; exact h i (by omega))
theorem agrees_ok {A : Abs} {s : sgS} {w y : Nat} (ok : okA A) (h0 : cP (aK A) ≠ 0) (hw : w < cS (aK A)) (hy : y < wN (aY A)) (hV : CSeen A s) (hT : ∀ n, 1 ≤ n → n ≤ 9 → s.1 (326 + y) n = nI (trl A w y n)) : f_X7_agrees 10000 (nI w) (nI y) s = some (if agB A w y (aV A).1 then 1 else 0) := by
  have hs4 := ok.2.1.2.2.1
  have hp7 := ok.2.1.1
  have hwn := ok.2.2.2.1.1
  have oV := ok.2.2.2.2.2.2.2.2.2.1
  have st : ∀ i, i < (aV A).1 → f_X7_agrees_L2 10000 (nI w) (nI y) (nI i) s = if ag1 A w y i = true then some (.inr (.inl (nI (i + 1)))) else some (.inl 0) := by
    intro i hi
    have o := oV.2 i hi
    obtain ⟨v1, v2, v3, v4⟩ := hV.2 i hi
    have tl := trl_lt (n := ((aV A).2 i).2.2.1) ok h0 hw hy
    unfold f_X7_agrees_L2 f_X7_agrees_L2_B47 ag1
    rw [hV.1, if_neg (by rw [nJ_le (by omega) (by omega)]; omega), ld_ok (by omega) (by decide), v1, nJ_addL]
    by_cases c1 : ((aV A).2 i).1 = w
    · rw [if_pos (by rw [c1]), rf_ok (by omega) (by decide), ld_ok (by omega) (by decide), v3, ld_ok (by omega) (by decide), hT _ o.2.2.1 o.2.2.2.1, ld_ok (by omega) (by decide), v2, decide_eq_false (show ¬ ((aV A).2 i).1 ≠ w from fun h => h c1), Bool.false_or]
      have o5 : ((aV A).2 i).2.2.2 = 0 ∨ ((aV A).2 i).2.2.2 = 1 := by omega
      by_cases c2 : trl A w y ((aV A).2 i).2.2.1 = ((aV A).2 i).2.1
      · rw [if_pos (by rw [c2]), decide_eq_true c2, ld_ok (by omega) (by decide), v4]
        rcases o5 with e | e
        · rw [e]; rfl
        · rw [e]; rfl
      · rw [if_neg (by rw [nJ_eq (by omega) (by omega)]; exact c2), decide_eq_false c2, ld_ok (by omega) (by decide), v4]
        rcases o5 with e | e
        · rw [e]; rfl
        · rw [e]; rfl
    · rw [if_neg (by rw [nJ_eq (by omega) (by omega)]; exact c1), decide_eq_true (show ((aV A).2 i).1 ≠ w from c1)]
      rfl
  unfold f_X7_agrees
  rcases ag_first (A := A) (w := w) (y := y) (aV A).1 with ⟨m, h1, h2, h3⟩ | h
  · obtain ⟨z, hz, e⟩ := lp_go (b := fun z => f_X7_agrees_L2 10000 (nI w) (nI y) z s) (n := m) (fun k z => z = nI k) (by
      rintro k z hk rfl
      refine ⟨nI (k + 1), ?_, rfl⟩
      show f_X7_agrees_L2 10000 (nI w) (nI y) (nI k) s = _
      rw [st k (by omega), if_pos (h3 k hk)]) m 0 10000 0 (by omega) (by omega) rfl
    subst hz
    rw [e, show 10000 - m = (10000 - m - 1) + 1 by omega, lp_ret (r := 0) (by show f_X7_agrees_L2 10000 (nI w) (nI y) (nI m) s = _; rw [st m h1, if_neg (by rw [h2]; decide)]), lb_inl, agB_no h2 _ h1]
    rfl
  · have key := lp_for (b := fun z => f_X7_agrees_L2 10000 (nI w) (nI y) z s) (fun k => nI k) (aV A).1 () (fun k hk => by show f_X7_agrees_L2 10000 (nI w) (nI y) (nI k) s = _; rw [st k hk, if_pos (h k hk)]) (by
      show f_X7_agrees_L2 10000 (nI w) (nI y) (nI (aV A).1) s = _
      unfold f_X7_agrees_L2
      rw [hV.1, if_pos (by rw [nJ_le (by omega) (by omega)]; omega)]) 10000 0 (by omega) (by omega)
    have key : sg_lp (fun z => f_X7_agrees_L2 10000 (nI w) (nI y) z s) 10000 0 = _ := key
    rw [key, lb_inr, agB_all _ h]
    rfl
def bgn (A : Abs) (w y : Nat) : Bool := decide (wS (aY A) y 0 = cT (aK A) w)
def ftB (A : Abs) (w : Nat) : Nat → Nat
  | 0 => 0
  | y + 1 => if (bgn A w y && agB A w y (aV A).1) = true then ftB A w y ||| 2 ^ y else ftB A w y
theorem ftB_lt {A : Abs} {w : Nat} : ∀ n, ftB A w n < 2 ^ n := by
  intro n
  induction n with
  | zero => exact Nat.one_pos
  | succ n ih =>
    show (if (bgn A w n && agB A w n (aV A).1) = true then ftB A w n ||| 2 ^ n else ftB A w n) < 2 ^ (n + 1)
    have h1 : ftB A w n < 2 ^ (n + 1) := by rw [Nat.pow_succ]; omega
    split
    · exact Nat.or_lt_two_pow h1 (Nat.pow_lt_pow_right (by decide) (by omega))
    · exact h1
theorem ftB_bit {A : Abs} {w y : Nat} : ∀ n, (ftB A w n).testBit y = true → bgn A w y = true ∧ y < n := by
  intro n
  induction n with
  | zero => intro h; rw [show ftB A w 0 = 0 from rfl, Nat.zero_testBit] at h; cases h
  | succ n ih =>
    show (if (bgn A w n && agB A w n (aV A).1) = true then ftB A w n ||| 2 ^ n else ftB A w n).testBit y = true → _
    by_cases c : (bgn A w n && agB A w n (aV A).1) = true
    · rw [if_pos c, Nat.testBit_or, Bool.or_eq_true, Nat.testBit_two_pow, decide_eq_true_eq]
      rw [Bool.and_eq_true] at c
      rintro (h | h)
      · exact ⟨(ih h).1, by have := (ih h).2; omega⟩
      · subst h; exact ⟨c.1, by omega⟩
    · rw [if_neg c]
      intro h
      exact ⟨(ih h).1, by have := (ih h).2; omega⟩
theorem fitting_C {A : Abs} {σ : sgS} {w : Nat} (ok : okA A) (C : RelC A σ) (h0 : cP (aK A) ≠ 0) (hw : w < cS (aK A)) : ∃ σ', f_X7_fittingWays 10000 (nI w) σ = some (nI (ftB A w (wN (aY A))), σ') ∧ Fr scC σ σ' ∧ ∀ y, y < wN (aY A) → bgn A w y = true → ∀ n, 1 ≤ n → n ≤ 9 → σ'.1 (326 + y) n = nI (trl A w y n) := by
  have hs4 := ok.2.1.2.2.1
  have hp7 := ok.2.1.1
  have hwn := ok.2.2.2.1.1
  have gC := RelC_iff.mp C
  obtain ⟨⟨s', c'⟩, e, y1, y2, y3⟩ := lp_cnt (b := fun x : sgS × Int32 × Int32 => f_X7_fittingWays_L4 10000 (nI w) x.2.1 x.2.2 x.1) (n := wN (aY A)) (fun k x => x.2.2 = nI k ∧ x.2.1 = nI (ftB A w k) ∧ Fr scC σ x.1 ∧ ∀ y, y < k → bgn A w y = true → ∀ n, 1 ≤ n → n ≤ 9 → x.1.1 (326 + y) n = nI (trl A w y n)) (fun z => z.2 = nI (ftB A w (wN (aY A))) ∧ Fr scC σ z.1 ∧ ∀ y, y < wN (aY A) → bgn A w y = true → ∀ n, 1 ≤ n → n ≤ 9 → z.1.1 (326 + y) n = nI (trl A w y n)) (by
    rintro k ⟨s, b, x⟩ hk ⟨g1, g2, g3, g4⟩
    have g1 : x = _ := g1
    have g2 : b = _ := g2
    have g3 : Fr scC σ s := g3
    have g4 : ∀ y, y < k → bgn A w y = true → ∀ n, 1 ≤ n → n ≤ 9 → s.1 (326 + y) n = nI (trl A w y n) := g4
    subst g1 g2
    obtain ⟨k1, k2, k3⟩ := kC_sc ok gC g3
    have hl := ok.2.2.2.1.2 k hk
    have hst := hl.2.2 0 (by omega)
    have hct := ok.2.1.2.2.2.2.2.2.2 w hw
    show ∃ x', f_X7_fittingWays_L4 10000 (nI w) (nI (ftB A w k)) (nI k) s = some (.inr (.inl x')) ∧ _
    unfold f_X7_fittingWays_L4
    rw [k3.1, if_neg (by rw [nJ_le (by omega) (by omega)]; omega), show f_X10_placeAt 10000 (nI k) 0 s = _ from placeAt_y (i := 0) k3 ok.2.2.2.1 hk (by omega), cr_some, ld_ok (by omega) (by decide), k1.2.2.2.2.2.2 w hw, nJ_addL]
    have eF : ftB A w (k + 1) = if (bgn A w k && agB A w k (aV A).1) = true then ftB A w k ||| 2 ^ k else ftB A w k := rfl
    by_cases c : wS (aY A) k 0 = cT (aK A) w
    · have hb : bgn A w k = true := decide_eq_true c
      obtain ⟨s1, e1, f1, t1, u1⟩ := follow_ok ok C h0 hw hk g3
      have V1 : CSeen A s1 := by
        have fC := f1
        have okL4 : (aL A).1 ≤ 4 := ok.2.2.1.1
        have okY4 : wN (aY A) ≤ 4 := ok.2.2.2.1.1
        exact (gCV_fr fC (fun j k hx => by unfold xCV at hx; (try unfold pt); (try unfold pb); (try unfold p21); (try unfold scC); (try unfold scM); omega) rfl gC.2.2.2.2.2.2.2.1)
      rw [if_pos (by rw [c]), e1, cl_some, agrees_ok ok h0 hw hk V1 t1, cr_some, shl_1 (by omega), nI_or, or_nI0]
      have T1 : ∀ y, y < k + 1 → bgn A w y = true → ∀ n, 1 ≤ n → n ≤ 9 → s1.1 (326 + y) n = nI (trl A w y n) := by
        intro y hy hby n h1 h2
        by_cases cy : y = k
        · subst cy; exact t1 n h1 h2
        · rw [u1 y (by omega) cy]; exact g4 y (by omega) hby n h1 h2
      cases ha : agB A w k (aV A).1 with
      | true =>
        refine ⟨_, if_neg nn10, rfl, ?_, f1, T1⟩
        rw [eF, hb, ha]; rfl
      | false =>
        refine ⟨_, if_pos rfl, rfl, ?_, f1, T1⟩
        rw [eF, hb, ha]; rfl
    · have hb : bgn A w k = false := decide_eq_false c
      rw [if_neg (by rw [nJ_eq (by omega) (by omega)]; exact c)]
      refine ⟨_, rfl, rfl, ?_, g3, fun y hy hby => ?_⟩
      · rw [eF, hb]; rfl
      · by_cases cy : y = k
        · subst cy; rw [hb] at hby; cases hby
        · exact g4 y (by omega) hby) (by
    rintro ⟨s, b, x⟩ ⟨g1, g2, g3, g4⟩
    have g1 : x = _ := g1
    have g2 : b = _ := g2
    have g3 : Fr scC σ s := g3
    subst g1 g2
    obtain ⟨k1, k2, k3⟩ := kC_sc ok gC g3
    refine ⟨(s, nI (ftB A w (wN (aY A)))), ?_, rfl, g3, g4⟩
    show f_X7_fittingWays_L4 10000 (nI w) (nI (ftB A w (wN (aY A)))) (nI (wN (aY A))) s = _
    unfold f_X7_fittingWays_L4
    rw [k3.1, if_pos (by rw [nJ_le (by omega) (by omega)]; omega)]) 10000 0 ((σ, 0, 0)) (by omega) (by omega) ⟨rfl, rfl, Fr.rf, fun y h => absurd h (Nat.not_lt_zero _)⟩
  have y1 : c' = _ := y1
  subst y1
  refine ⟨s', ?_, y2, y3⟩
  unfold f_X7_fittingWays
  rw [e, lb_inr]
/-! the reference's -/
theorem beginsAt_ok {N y p : Nat} {Y : Wys} {τ : sgS} (oky : okY Y) (hY : MY Y τ) (hy : y < wN Y) (hp : p < 100) : f_X12_beginsAt N (nI y) (nI p) τ = some (if decide (wS Y y 0 = p) then 1 else 0) := by
  have hwn := oky.1
  have hl := oky.2 y hy
  have hst := hl.2.2 0 (by omega)
  unfold f_X12_beginsAt
  rw [nJ_Lmul, ld_ok (by omega) (by decide), show 12 * y = 12 * y + 0 from rfl, (hY.2 y hy).2 0 (by omega)]
  by_cases c : wS Y y 0 = p
  · rw [if_pos (by rw [c]), decide_eq_true c]; rfl
  · rw [if_neg (by rw [nJ_eq (by omega) (by omega)]; exact c), decide_eq_false c]; rfl
theorem trails_M {A : Abs} {τ : sgS} {w : Nat} (ok : okA A) (M : RelM A τ) (h0 : cP (aK A) ≠ 0) (hw : w < cS (aK A)) : ∃ τ', f_X12_layTrails 10000 (nI w) τ = some (0, τ') ∧ Fr scM τ τ' ∧ ∀ y, y < wN (aY A) → bgn A w y = true → ∀ n, n ≤ 9 → τ'.1 33 (10 * y + n) = nI (trl A w y n) := by
  have hs4 := ok.2.1.2.2.1
  have hp7 := ok.2.1.1
  have hwn := ok.2.2.2.1.1
  have gM := RelM_iff.mp M
  have hct := ok.2.1.2.2.2.2.2.2.2 w hw
  obtain ⟨τ1, e, F, T⟩ := lp_st (b := fun x : sgS × Int32 => f_X12_layTrails_L6 10000 (nI w) x.2 x.1) (n := wN (aY A)) (fun k s => Fr pF (asid τ) s ∧ ∀ y, y < k → bgn A w y = true → ∀ n, n ≤ 9 → s.1 33 (10 * y + n) = nI (trl A w y n)) (by
    rintro k s hk ⟨g1, g2⟩
    obtain ⟨k1, k2, k3⟩ := kM_pF gM g1
    have hl := ok.2.2.2.1.2 k hk
    obtain ⟨s1, e1, S1, f1⟩ := layTold_ok (N := 10000) (by decide) ok.2.1 h0 k1
    have S2 : MS (aK A) (trS A w k) ((sg_up (sg_up s1 21 (4 + w) (wI (k + 1))) 21 (8 + w) (nI 1)).1 21) := by rw [row21, row21]; exact MS_W ok.2.1 hw S1
    have fp : Fr (fun j k => j = 21 ∧ k < 34) s (sg_up (sg_up s1 21 (4 + w) (wI (k + 1))) 21 (8 + w) (nI 1)) := (f1.tr (Fr.up ⟨rfl, by omega⟩)).tr (Fr.up ⟨rfl, by omega⟩)
    have F2 : Fr pF (asid τ) (sg_up (sg_up s1 21 (4 + w) (wI (k + 1))) 21 (8 + w) (nI 1)) := g1.tr (fp.mono (fun j k h => Or.inr h))
    have hit := itL_ok (W := aL A) ok.2.1 ok.2.2.2.1 (trS_ok ok h0 hw hk)
    have e2 : f_X12_putNow 10000 (nI w) (nI k) s1 = some (0, sg_up (sg_up s1 21 (4 + w) (wI (k + 1))) 21 (8 + w) (nI 1)) := by
      unfold f_X12_putNow
      rw [nJ_Ladd, nJ_Ladd, st_ok (by omega) (by decide), st_ok (by omega) (by decide), wI_s]; rfl
    generalize sg_up (sg_up s1 21 (4 + w) (wI (k + 1))) 21 (8 + w) (nI 1) = s2 at S2 fp F2 e2
    have run : ∃ s3, sg_lp (fun x : sgS × Int32 => f_X12_layTrails_L26 10000 (nI w) (nI k) x.2 x.1) 10000 ((s2, 0)) = some (.inr s3) ∧ Fr pF (asid τ) s3 ∧ (bgn A w k = true → ∀ n, n ≤ 9 → s3.1 33 (10 * k + n) = nI (trl A w k n)) ∧ ∀ q, (q < 10 * k ∨ 10 * k + 10 ≤ q) → s3.1 33 q = s2.1 33 q := by
      cases hb : bgn A w k with
      | true =>
        obtain ⟨s3, q1, q2, q3, q4, q5⟩ := lp_st (b := fun x : sgS × Int32 => f_X12_layTrails_L26 10000 (nI w) (nI k) x.2 x.1) (n := 10) (fun i u => Fr pF (asid τ) u ∧ MS (aK A) (itL (aK A) (aL A) (aY A) (trS A w k) i) (u.1 21) ∧ (∀ n, n < i → u.1 33 (10 * k + n) = nI (trl A w k n)) ∧ ∀ q, (q < 10 * k ∨ 10 * k + 10 ≤ q) → u.1 33 q = s2.1 33 q) (by
          rintro i u hi ⟨u1, u2, u3, u4⟩
          obtain ⟨m1, m2, m3⟩ := kM_pF gM u1
          obtain ⟨i1, i2, i3⟩ := hit i
          have hd0 : sD (trS A w k) = 0 := rfl
          have fu : Fr pF u (sg_up u 33 (10 * k + i) (nI (trl A w k i))) := Fr.up (by unfold pF scM; omega)
          obtain ⟨u', e, p1, p2, p3⟩ := liveT_ok (N := 10000) (by decide) ok h0 M (u1.tr fu) (by rw [up_ne (by decide)]; exact u2) i1 (by omega)
          have p33 : u'.1 33 = (sg_up u 33 (10 * k + i) (nI (trl A w k i))).1 33 := funext fun q => p3 33 q (by unfold liM mlM meM goM; omega)
          refine ⟨u', ?_, p2, p1, fun n hn => ?_, fun q hq => ?_⟩
          · show f_X12_layTrails_L26 10000 (nI w) (nI k) (nI i) u = _
            unfold f_X12_layTrails_L26
            rw [if_neg (by rw [nJ_Llt (by omega) (by decide)]; omega), ld_ok (by omega) (by decide), m1.2.2.2.2.2.2 w hw, beginsAt_ok ok.2.2.2.1 m3 hk (by omega), cr_some, show decide (wS (aY A) k 0 = cT (aK A) w) = true from hb, if_pos rfl, if_neg nn10, nJ_Ladd, Nat.zero_add, ld_ok (by omega) (by decide), u2.1 w hw, nJ_Lmul, nJ_add, st_ok (by omega) (by decide)]
            rw [show f_X12_live 10000 (sg_up u 33 (10 * k + i) (nI (sP (itL (aK A) (aL A) (aY A) (trS A w k) i) w))) = _ from e, cl_some, nJ_addL]
          · rw [p33]
            by_cases c : n = i
            · subst c; rw [up_at]
            · rw [up_nk (by omega)]; exact u3 n (by omega)
          · rw [p33, up_nk (by omega)]; exact u4 q hq) (by
          intro u _
          show f_X12_layTrails_L26 10000 (nI w) (nI k) (nI 10) u = _
          unfold f_X12_layTrails_L26
          rw [if_pos (by decide)]) 10000 0 s2 (by omega) (by omega) ⟨F2, S2, fun n h => absurd h (Nat.not_lt_zero _), fun _ _ => rfl⟩
        exact ⟨s3, q1, q2, fun _ n hn => q4 n (by omega), q5⟩
      | false =>
        obtain ⟨m1, m2, m3⟩ := kM_pF gM F2
        refine ⟨s2, ?_, F2, (fun h => by cases h), fun _ _ => rfl⟩
        rw [show (10000 : Nat) = 9999 + 1 from rfl, lp_out]
        show f_X12_layTrails_L26 (9999 + 1) (nI w) (nI k) (nI 0) s2 = _
        unfold f_X12_layTrails_L26
        rw [if_neg (by decide), ld_ok (by omega) (by decide), m1.2.2.2.2.2.2 w hw, beginsAt_ok ok.2.2.2.1 m3 hk (by omega), cr_some, show decide (wS (aY A) k 0 = cT (aK A) w) = false from hb, show (if false = true then (1 : Int32) else 0) = 0 from rfl, if_pos rfl]
    obtain ⟨s3, r1, r2, r3, r4⟩ := run
    refine ⟨s3, ?_, r2, fun y hy hby n hn => ?_⟩
    · show f_X12_layTrails_L6 10000 (nI w) (nI k) s = _
      unfold f_X12_layTrails_L6
      rw [k3.1, if_neg (by rw [nJ_le (by omega) (by omega)]; omega), e1, cl_some, e2, cl_some, r1, lb_inr, nJ_addL]
    · by_cases c : y = k
      · subst c; exact r3 hby n hn
      · rw [r4 _ (by omega), fp 33 _ (by omega)]
        exact g2 y (by omega) hby n hn) (by
    rintro s ⟨g1, -⟩
    obtain ⟨k1, k2, k3⟩ := kM_pF gM g1
    show f_X12_layTrails_L6 10000 (nI w) (nI (wN (aY A))) s = _
    unfold f_X12_layTrails_L6
    rw [k3.1, if_pos (by rw [nJ_le (by omega) (by omega)]; omega)]) 10000 0 (asid τ) (by omega) (by omega) ⟨Fr.rf, fun y h => absurd h (Nat.not_lt_zero _)⟩
  refine ⟨bck τ1, ?_, bck_fr F, fun y hy hby n hn => ?_⟩
  · unfold f_X12_layTrails
    have e : sg_lp (fun x : sgS × Int32 => f_X12_layTrails_L6 10000 (nI w) x.2 x.1) 10000 ((asid τ, 0)) = _ := e
    rw [putAside_ok (by decide), cl_some, e, lb_inr, takeBack_ok (by decide), cl_some]
  · show (sg_row τ1 21 _).1 33 _ = _
    rw [sg_row_nt (by decide)]
    exact T y hy hby n hn
theorem isFit_ok {A : Abs} {τ : sgS} {w y : Nat} (ok : okA A) (h0 : cP (aK A) ≠ 0) (hw : w < cS (aK A)) (hy : y < wN (aY A)) (hK : MK (aK A) τ) (hY : MY (aY A) τ) (hV : MSeen A τ) (hT : bgn A w y = true → ∀ n, n ≤ 9 → τ.1 33 (10 * y + n) = nI (trl A w y n)) : f_X12_isFit 10000 (nI w) (nI y) τ = some (if (bgn A w y && agB A w y (aV A).1) then 1 else 0) := by
  have hs4 := ok.2.1.2.2.1
  have hp7 := ok.2.1.1
  have hwn := ok.2.2.2.1.1
  have oV := ok.2.2.2.2.2.2.2.2.2.1
  have hct := ok.2.1.2.2.2.2.2.2.2 w hw
  unfold f_X12_isFit
  rw [ld_ok (by omega) (by decide), hK.2.2.2.2.2.2 w hw, beginsAt_ok ok.2.2.2.1 hY hy (by omega), cr_some]
  have out0 : ∀ k, k ≤ (aV A).1 → f_X12_isFit_L15 10000 (nI w) (nI y) 0 (nI k) τ = some (.inr (.inr 0)) := by
    intro k hk
    unfold f_X12_isFit_L15
    rw [hV.1]
    by_cases c : k = (aV A).1
    · rw [if_pos (by rw [nJ_le (by omega) (by omega)]; omega)]
    · rw [if_neg (by rw [nJ_le (by omega) (by omega)]; omega), if_pos rfl]
  cases hb : bgn A w y with
  | false =>
    rw [show decide (wS (aY A) y 0 = cT (aK A) w) = false from hb, if_neg (by decide), show (10000 : Nat) = 9999 + 1 from rfl, lp_out (y := 0) (out0 0 (Nat.zero_le _)), lb_inr]
    rfl
  | true =>
    have hT := hT hb
    rw [show decide (wS (aY A) y 0 = cT (aK A) w) = true from hb, if_pos rfl, Bool.true_and]
    have st : ∀ i, i < (aV A).1 → f_X12_isFit_L15 10000 (nI w) (nI y) 1 (nI i) τ = some (.inr (.inl (if ag1 A w y i = true then 1 else 0, nI (i + 1)))) := by
      intro i hi
      have o := oV.2 i hi
      obtain ⟨v1, v2, v3, v4⟩ := hV.2 i hi
      have tl := trl_lt (n := ((aV A).2 i).2.2.1) ok h0 hw hy
      unfold f_X12_isFit_L15 f_X12_isFit_L15_B71 ag1
      rw [hV.1, if_neg (by rw [nJ_le (by omega) (by omega)]; omega), if_neg nn10, ld_ok (by omega) (by decide), v1, nJ_addL]
      by_cases c1 : ((aV A).2 i).1 = w
      · rw [if_pos (by rw [c1]), ld_ok (by omega) (by decide), v3, nJ_Lmul, nJ_add, ld_ok (by omega) (by decide), hT _ o.2.2.2.1, ld_ok (by omega) (by decide), v2, decide_eq_false (show ¬ ((aV A).2 i).1 ≠ w from fun h => h c1), Bool.false_or]
        have o5 : ((aV A).2 i).2.2.2 = 0 ∨ ((aV A).2 i).2.2.2 = 1 := by omega
        by_cases c2 : trl A w y ((aV A).2 i).2.2.1 = ((aV A).2 i).2.1
        · rw [if_pos (by rw [c2]), decide_eq_true c2, ld_ok (by omega) (by decide), v4]
          rcases o5 with e | e
          · rw [e]; rfl
          · rw [e]; rfl
        · rw [if_neg (by rw [nJ_eq (by omega) (by omega)]; exact c2), decide_eq_false c2, ld_ok (by omega) (by decide), v4]
          rcases o5 with e | e
          · rw [e]; rfl
          · rw [e]; rfl
      · rw [if_neg (by rw [nJ_eq (by omega) (by omega)]; exact c1), decide_eq_true (show ((aV A).2 i).1 ≠ w from c1)]
        rfl
    rcases ag_first (A := A) (w := w) (y := y) (aV A).1 with ⟨m, h1, h2, h3⟩ | h
    · obtain ⟨⟨z1, z2⟩, ⟨q1, q2⟩, e⟩ := lp_go (b := fun z : Int32 × Int32 => f_X12_isFit_L15 10000 (nI w) (nI y) z.1 z.2 τ) (n := m) (fun k z => z.1 = 1 ∧ z.2 = nI k) (by
        rintro k ⟨z1, z2⟩ hk ⟨q1, q2⟩
        have q1 : z1 = 1 := q1
        have q2 : z2 = nI k := q2
        subst q1 q2
        refine ⟨(1, nI (k + 1)), ?_, rfl, rfl⟩
        show f_X12_isFit_L15 10000 (nI w) (nI y) 1 (nI k) τ = _
        rw [st k (by omega), if_pos (h3 k hk)]) m 0 10000 ((1, 0)) (by omega) (by omega) ⟨rfl, rfl⟩
      have q1 : z1 = 1 := q1
      have q2 : z2 = nI m := q2
      subst q1 q2
      have s9 := st m h1
      rw [h2, if_neg (by decide)] at s9
      rw [e, show 10000 - m = (10000 - m - 2) + 1 + 1 by omega, lp_step (x' := (0, nI (m + 1))) s9, lp_out (y := 0) (out0 (m + 1) (by omega)), lb_inr, agB_no h2 _ h1]
      rfl
    · have key := lp_for (b := fun z : Int32 × Int32 => f_X12_isFit_L15 10000 (nI w) (nI y) z.1 z.2 τ) (fun k => (1, nI k)) (aV A).1 1 (fun k hk => by show f_X12_isFit_L15 10000 (nI w) (nI y) 1 (nI k) τ = _; rw [st k hk, if_pos (h k hk)]) (by
        show f_X12_isFit_L15 10000 (nI w) (nI y) 1 (nI (aV A).1) τ = _
        unfold f_X12_isFit_L15
        rw [hV.1, if_pos (by rw [nJ_le (by omega) (by omega)]; omega)]) 10000 0 (by omega) (by omega)
      have key : sg_lp (fun z : Int32 × Int32 => f_X12_isFit_L15 10000 (nI w) (nI y) z.1 z.2 τ) 10000 ((1, 0)) = _ := key
      rw [key, lb_inr, agB_all _ h]
      rfl
theorem fits_M {A : Abs} {τ : sgS} {w : Nat} (ok : okA A) (M : RelM A τ) (h0 : cP (aK A) ≠ 0) (hw : w < cS (aK A)) : ∃ τ', f_X12_fitsOf 10000 (nI w) τ = some (nI (ftB A w (wN (aY A))), τ') ∧ Fr scM τ τ' ∧ ∀ y, y < wN (aY A) → bgn A w y = true → ∀ n, n ≤ 9 → τ'.1 33 (10 * y + n) = nI (trl A w y n) := by
  have hwn := ok.2.2.2.1.1
  have gM := RelM_iff.mp M
  obtain ⟨τ1, e1, f1, T⟩ := trails_M ok M h0 hw
  have fM := f1
  have K1 : MK (aK A) τ1 := (gMK_fr fM (fun j k hx => by unfold xMK at hx; (try unfold pt); (try unfold pb); (try unfold p21); (try unfold scC); (try unfold scM); omega) rfl gM.2.1)
  have Y1 : MY (aY A) τ1 := (gMY_fr fM (fun j k hx => by unfold xMY at hx; (try unfold pt); (try unfold pb); (try unfold p21); (try unfold scC); (try unfold scM); omega) rfl gM.2.2.2.1)
  have V1 : MSeen A τ1 := (gMV_fr fM (fun j k hx => by unfold xMV at hx; (try unfold pt); (try unfold pb); (try unfold p21); (try unfold scC); (try unfold scM); omega) rfl gM.2.2.2.2.2.2.2.1)
  have key := lp_for (b := fun z : Int32 × Int32 => f_X12_fitsOf_L9 10000 (nI w) z.1 z.2 τ1) (fun k => (nI (ftB A w k), nI k)) (wN (aY A)) (nI (ftB A w (wN (aY A)))) (fun k hk => by
    show f_X12_fitsOf_L9 10000 (nI w) (nI (ftB A w k)) (nI k) τ1 = some (.inr (.inl (nI (if (bgn A w k && agB A w k (aV A).1) = true then ftB A w k ||| 2 ^ k else ftB A w k), nI (k + 1))))
    unfold f_X12_fitsOf_L9
    rw [Y1.1, if_neg (by rw [nJ_le (by omega) (by omega)]; omega), isFit_ok ok h0 hw hk K1 Y1 V1 (T k hk), cr_some, shl_1 (by omega), nI_or, or_nI0, nJ_addL]
    cases (bgn A w k && agB A w k (aV A).1)
    · rfl
    · rfl) (by
    show f_X12_fitsOf_L9 10000 (nI w) _ (nI (wN (aY A))) τ1 = _
    unfold f_X12_fitsOf_L9
    rw [Y1.1, if_pos (by rw [nJ_le (by omega) (by omega)]; omega)]) 10000 0 (by omega) (by omega)
  have key : sg_lp (fun z : Int32 × Int32 => f_X12_fitsOf_L9 10000 (nI w) z.1 z.2 τ1) 10000 ((0, 0)) = _ := key
  refine ⟨τ1, ?_, f1, T⟩
  unfold f_X12_fitsOf
  rw [e1, cl_some, key, lb_inr]
theorem lw_O27_ok : lw_O27 Rel := by
  intro a1
  refine q_eq (fun A σ τ ok C M => ⟨10000, 10000, ?_⟩)
  have hs4 := ok.2.1.2.2.1
  have eC := C.2.1
  have eM := M.2.1
  unfold f_X11_fits f_X12_fits
  rcases nJ_rng a1 (cS (aK A)) (by omega) with ⟨w, hw, rfl⟩ | h
  · have h0 : cP (aK A) ≠ 0 := fun h => by have := (ok.2.1.2.2.2.1 h).2; omega
    obtain ⟨σ1, e1, f1, -⟩ := fitting_C ok C h0 hw
    obtain ⟨τ1, e2, f2, -⟩ := fits_M ok M h0 hw
    rw [hasSet_y eC.2.2.1 hw (by omega), isSet_y eM.2.2.1 hw (by omega), cr_some, cr_some, if_neg nn10, if_neg nn10, e1, e2, cl_some, cl_some]
    exact ⟨_, _, _, rfl, rfl, f1, f2⟩
  · rw [hasSet_n eC.2.2.1 h, isSet_n eM.2.2.1 h (by omega)]
    exact ⟨_, _, _, rfl, rfl, Fr.rf, Fr.rf⟩
/-! which day to ask -/
def alk (A : Abs) (w F d p : Nat) : Nat → Nat
  | 0 => 0
  | y + 1 => if F.testBit y = true ∧ trl A w y d = p then alk A w F d p y + 1 else alk A w F d p y
theorem alk_le {A : Abs} {w F d p : Nat} : ∀ n, alk A w F d p n ≤ n := by
  intro n
  induction n with
  | zero => exact Nat.le_refl _
  | succ n ih =>
    show (if F.testBit n = true ∧ trl A w n d = p then alk A w F d p n + 1 else alk A w F d p n) ≤ n + 1
    split <;> omega
def mal (A : Abs) (w F d : Nat) : Nat → Nat
  | 0 => 0
  | p + 1 => max (mal A w F d p) (alk A w F d p (wN (aY A)))
theorem mal_le {A : Abs} {w F d : Nat} (hn : wN (aY A) ≤ 4) : ∀ n, mal A w F d n ≤ 4 := by
  intro n
  induction n with
  | zero => exact Nat.zero_le _
  | succ n ih =>
    have := alk_le (A := A) (w := w) (F := F) (d := d) (p := n) (wN (aY A))
    show max (mal A w F d n) (alk A w F d n (wN (aY A))) ≤ 4
    omega
theorem alike_C {A : Abs} {s : sgS} {w F d : Nat} (ok : okA A) (h0 : cP (aK A) ≠ 0) (hw : w < cS (aK A)) (hd : 1 ≤ d ∧ d ≤ 9) (hK : CK (aK A) s) (hY : CY (aY A) s) (hF : ∀ y, y < wN (aY A) → F.testBit y = true → s.1 (326 + y) d = nI (trl A w y d)) : f_X7_mostAlike 10000 (nI F) (nI d) s = some (nI (mal A w F d (cP (aK A)))) := by
  have hp7 := ok.2.1.1
  have hwn := ok.2.2.2.1.1
  have inner : ∀ p x3, p < cP (aK A) → sg_lp (fun z : Int32 × Int32 => f_X7_mostAlike_L23 10000 (nI F) (nI d) x3 (nI p) z.1 z.2 s) 10000 ((0, 0)) = some (.inr (nI (alk A w F d p (wN (aY A))))) := by
    intro p x3 hp
    exact lp_for (b := fun z : Int32 × Int32 => f_X7_mostAlike_L23 10000 (nI F) (nI d) x3 (nI p) z.1 z.2 s) (fun k => (nI (alk A w F d p k), nI k)) (wN (aY A)) (nI (alk A w F d p (wN (aY A)))) (fun k hk => by
      show f_X7_mostAlike_L23 10000 (nI F) (nI d) x3 (nI p) (nI (alk A w F d p k)) (nI k) s = some (.inr (.inl (nI (if F.testBit k = true ∧ trl A w k d = p then alk A w F d p k + 1 else alk A w F d p k), nI (k + 1))))
      have tl := trl_lt (n := d) ok h0 hw hk
      unfold f_X7_mostAlike_L23
      rw [hY.1, if_neg (by rw [nJ_le (by omega) (by omega)]; omega), shr_nI (by omega), nJ_addL]
      by_cases c1 : F.testBit k = true
      · rw [if_neg (by rw [if_pos c1]; decide), rf_ok (by omega) (by decide), ld_ok (by omega) (by decide), hF k hk c1, nJ_addL]
        by_cases c2 : trl A w k d = p
        · rw [if_pos (by rw [c2]), if_pos ⟨c1, c2⟩]
        · rw [if_neg (by rw [nJ_eq (by omega) (by omega)]; exact c2), if_neg (fun h => c2 h.2)]
      · rw [if_pos (by rw [if_neg c1]), if_neg (fun h => c1 h.1)]) (by
      show f_X7_mostAlike_L23 10000 (nI F) (nI d) x3 (nI p) _ (nI (wN (aY A))) s = _
      unfold f_X7_mostAlike_L23
      rw [hY.1, if_pos (by rw [nJ_le (by omega) (by omega)]; omega)]) 10000 0 (by omega) (by omega)
  have key := lp_for (b := fun z : Int32 × Int32 => f_X7_mostAlike_L5 10000 (nI F) (nI d) z.1 z.2 s) (fun k => (nI (mal A w F d k), nI k)) (cP (aK A)) (nI (mal A w F d (cP (aK A)))) (fun k hk => by
    show f_X7_mostAlike_L5 10000 (nI F) (nI d) (nI (mal A w F d k)) (nI k) s = some (.inr (.inl (nI (max (mal A w F d k) (alk A w F d k (wN (aY A)))), nI (k + 1))))
    have b1 := mal_le (A := A) (w := w) (F := F) (d := d) hwn k
    have b2 := alk_le (A := A) (w := w) (F := F) (d := d) (p := k) (wN (aY A))
    unfold f_X7_mostAlike_L5
    rw [hK.1, if_neg (by rw [nJ_le (by omega) (by omega)]; omega), inner k _ hk, lb_inr, max_ok (by omega) (by omega), nJ_addL]) (by
    show f_X7_mostAlike_L5 10000 (nI F) (nI d) _ (nI (cP (aK A))) s = _
    unfold f_X7_mostAlike_L5
    rw [hK.1, if_pos (by rw [nJ_le (by omega) (by omega)]; omega)]) 10000 0 (by omega) (by omega)
  have key : sg_lp (fun z : Int32 × Int32 => f_X7_mostAlike_L5 10000 (nI F) (nI d) z.1 z.2 s) 10000 ((0, 0)) = _ := key
  unfold f_X7_mostAlike
  rw [key, lb_inr]
theorem alike_M {A : Abs} {s : sgS} {w F d : Nat} (ok : okA A) (h0 : cP (aK A) ≠ 0) (hw : w < cS (aK A)) (hd : 1 ≤ d ∧ d ≤ 9) (hK : MK (aK A) s) (hY : MY (aY A) s) (hF : ∀ y, y < wN (aY A) → F.testBit y = true → s.1 33 (10 * y + d) = nI (trl A w y d)) : f_X12_mostAlike 10000 (nI F) (nI d) s = some (nI (mal A w F d (cP (aK A)))) := by
  have hp7 := ok.2.1.1
  have hwn := ok.2.2.2.1.1
  have inner : ∀ p x3, p < cP (aK A) → sg_lp (fun z : Int32 × Int32 => f_X12_mostAlike_L20 10000 (nI F) (nI d) x3 (nI p) z.1 z.2 s) 10000 ((0, 0)) = some (.inr (nI (alk A w F d p (wN (aY A))))) := by
    intro p x3 hp
    exact lp_for (b := fun z : Int32 × Int32 => f_X12_mostAlike_L20 10000 (nI F) (nI d) x3 (nI p) z.1 z.2 s) (fun k => (nI (alk A w F d p k), nI k)) (wN (aY A)) (nI (alk A w F d p (wN (aY A)))) (fun k hk => by
      show f_X12_mostAlike_L20 10000 (nI F) (nI d) x3 (nI p) (nI (alk A w F d p k)) (nI k) s = some (.inr (.inl (nI (if F.testBit k = true ∧ trl A w k d = p then alk A w F d p k + 1 else alk A w F d p k), nI (k + 1))))
      have tl := trl_lt (n := d) ok h0 hw hk
      unfold f_X12_mostAlike_L20
      rw [hY.1, if_neg (by rw [nJ_le (by omega) (by omega)]; omega), has_nI (by omega), cr_some, nJ_addL, nJ_addL, nJ_addL, Nat.add_zero]
      by_cases c1 : F.testBit k = true
      · rw [if_neg (by rw [if_pos c1]; decide), nJ_Lmul, nJ_add, ld_ok (by omega) (by decide), hF k hk c1]
        by_cases c2 : trl A w k d = p
        · rw [if_pos (by rw [c2]), if_pos ⟨c1, c2⟩]
        · rw [if_neg (by rw [nJ_eq (by omega) (by omega)]; exact c2), if_neg (fun h => c2 h.2)]
      · rw [if_pos (by rw [if_neg c1]), if_neg (fun h => c1 h.1)]) (by
      show f_X12_mostAlike_L20 10000 (nI F) (nI d) x3 (nI p) _ (nI (wN (aY A))) s = _
      unfold f_X12_mostAlike_L20
      rw [hY.1, if_pos (by rw [nJ_le (by omega) (by omega)]; omega)]) 10000 0 (by omega) (by omega)
  have key := lp_for (b := fun z : Int32 × Int32 => f_X12_mostAlike_L5 10000 (nI F) (nI d) z.1 z.2 s) (fun k => (nI (mal A w F d k), nI k)) (cP (aK A)) (nI (mal A w F d (cP (aK A)))) (fun k hk => by
    show f_X12_mostAlike_L5 10000 (nI F) (nI d) (nI (mal A w F d k)) (nI k) s = some (.inr (.inl (nI (max (mal A w F d k) (alk A w F d k (wN (aY A)))), nI (k + 1))))
    have b1 := mal_le (A := A) (w := w) (F := F) (d := d) hwn k
    have b2 := alk_le (A := A) (w := w) (F := F) (d := d) (p := k) (wN (aY A))
    unfold f_X12_mostAlike_L5
    rw [hK.1, if_neg (by rw [nJ_le (by omega) (by omega)]; omega), inner k _ hk, lb_inr, max_ok (by omega) (by omega), nJ_addL]) (by
    show f_X12_mostAlike_L5 10000 (nI F) (nI d) _ (nI (cP (aK A))) s = _
    unfold f_X12_mostAlike_L5
    rw [hK.1, if_pos (by rw [nJ_le (by omega) (by omega)]; omega)]) 10000 0 (by omega) (by omega)
  have key : sg_lp (fun z : Int32 × Int32 => f_X12_mostAlike_L5 10000 (nI F) (nI d) z.1 z.2 s) 10000 ((0, 0)) = _ := key
  unfold f_X12_mostAlike
  rw [key, lb_inr]
def bdy (m : Nat → Nat) : Nat → Nat
  | 0 => 1
  | k + 1 => if m (k + 2) < m (bdy m k) then k + 2 else bdy m k
theorem bdy_le {m : Nat → Nat} : ∀ k, 1 ≤ bdy m k ∧ bdy m k ≤ k + 1 := by
  intro k
  induction k with
  | zero => exact ⟨Nat.le_refl _, Nat.le_refl _⟩
  | succ k ih =>
    show 1 ≤ (if m (k + 2) < m (bdy m k) then k + 2 else bdy m k) ∧ (if m (k + 2) < m (bdy m k) then k + 2 else bdy m k) ≤ k + 1 + 1
    split <;> omega
theorem lw_O28_ok : lw_O28 Rel := by
  intro a1
  refine q_eq (fun A σ τ ok C M => ⟨10000, 10000, ?_⟩)
  have hs4 := ok.2.1.2.2.1
  have hp7 := ok.2.1.1
  have hwn := ok.2.2.2.1.1
  have eC := C.2.1
  have eM := M.2.1
  have gC := RelC_iff.mp C
  have gM := RelM_iff.mp M
  unfold f_X11_ask f_X12_ask f_X11_ask_B23
  rcases nJ_rng a1 (cS (aK A)) (by omega) with ⟨w, hw, rfl⟩ | h
  · have h0 : cP (aK A) ≠ 0 := fun h => by have := (ok.2.1.2.2.2.1 h).2; omega
    obtain ⟨σ1, e1, f1, t1⟩ := fitting_C ok C h0 hw
    obtain ⟨τ1, e2, f2, t2⟩ := fits_M ok M h0 hw
    have fM := f2
    have K2 : MK (aK A) τ1 := (gMK_fr fM (fun j k hx => by unfold xMK at hx; (try unfold pt); (try unfold pb); (try unfold p21); (try unfold scC); (try unfold scM); omega) rfl gM.2.1)
    have Y2 : MY (aY A) τ1 := (gMY_fr fM (fun j k hx => by unfold xMY at hx; (try unfold pt); (try unfold pb); (try unfold p21); (try unfold scC); (try unfold scM); omega) rfl gM.2.2.2.1)
    obtain ⟨k1, k2, k3⟩ := kC_sc ok gC f1
    rw [hasSet_y eC.2.2.1 hw (by omega), isSet_y eM.2.2.1 hw (by omega), cr_some, cr_some, if_neg nn10, if_neg nn10, e1, e2, cl_some, cl_some]
    have hlt := ftB_lt (A := A) (w := w) (wN (aY A))
    have h16 : 2 ^ wN (aY A) ≤ 16 := Nat.pow_le_pow_right (n := 2) (by decide) hwn
    have hbit := fun y => ftB_bit (A := A) (w := w) (y := y) (wN (aY A))
    generalize ftB A w (wN (aY A)) = F at hlt hbit ⊢
    have mC : ∀ d, 1 ≤ d → d ≤ 9 → f_X7_mostAlike 10000 (nI F) (nI d) σ1 = some (nI (mal A w F d (cP (aK A)))) := fun d a b => alike_C ok h0 hw ⟨a, b⟩ k1 k3 (fun y hy hb => t1 y hy (hbit y hb).1 d a b)
    have mM : ∀ d, 1 ≤ d → d ≤ 9 → f_X12_mostAlike 10000 (nI F) (nI d) τ1 = some (nI (mal A w F d (cP (aK A)))) := fun d a b => alike_M ok h0 hw ⟨a, b⟩ K2 Y2 (fun y hy hb => t2 y hy (hbit y hb).1 d b)
    have ml : ∀ d, mal A w F d (cP (aK A)) ≤ 4 := fun d => mal_le hwn _
    by_cases cF : F = 0
    · subst cF
      rw [if_pos (show nI 0 = 0 from rfl), show (10000 : Nat) = 9999 + 1 from rfl, lp_out (y := -1) (by
        show f_X12_ask_L24 (9999 + 1) (nI w) (nI 0) (-1) 0 1 τ1 = _
        unfold f_X12_ask_L24
        rw [if_neg (by decide), if_pos (show nI 0 = 0 from rfl)]), lb_inr]
      exact ⟨_, _, _, rfl, rfl, f1, f2⟩
    · rw [if_neg (by rw [eq0_F (by omega) (by omega)]; exact id)]
      have kc := lp_for (b := fun z : Int32 × Int32 => f_X7_bestDayFor_L4 10000 (nI F) z.1 z.2 σ1) (fun k => (nI (bdy (fun d => mal A w F d (cP (aK A))) k), nI (k + 2))) 8 (nI (bdy (fun d => mal A w F d (cP (aK A))) 8)) (fun k hk => by
        show f_X7_bestDayFor_L4 10000 (nI F) (nI (bdy (fun d => mal A w F d (cP (aK A))) k)) (nI (k + 2)) σ1 = some (.inr (.inl (nI (if mal A w F (k + 2) (cP (aK A)) < mal A w F (bdy (fun d => mal A w F d (cP (aK A))) k) (cP (aK A)) then k + 2 else bdy (fun d => mal A w F d (cP (aK A))) k), nI (k + 1 + 2))))
        have hb := bdy_le (m := fun d => mal A w F d (cP (aK A))) k
        have m1 := ml (k + 2)
        have m2 := ml (bdy (fun d => mal A w F d (cP (aK A))) k)
        unfold f_X7_bestDayFor_L4
        rw [if_neg (by rw [nJ_Llt (by omega) (by decide)]; omega), mC (k + 2) (by omega) (by omega), mC _ hb.1 (by omega), cr_some, cr_some, nJ_addL]
        by_cases c : mal A w F (k + 2) (cP (aK A)) < mal A w F (bdy (fun d => mal A w F d (cP (aK A))) k) (cP (aK A))
        · rw [if_neg (by rw [nJ_le (by omega) (by omega)]; omega), if_pos c]
        · rw [if_pos (by rw [nJ_le (by omega) (by omega)]; omega), if_neg c]) (by
        show f_X7_bestDayFor_L4 10000 (nI F) _ (nI 10) σ1 = _
        unfold f_X7_bestDayFor_L4
        rw [if_pos (by decide)]) 10000 0 (by omega) (by omega)
      have kc : sg_lp (fun z : Int32 × Int32 => f_X7_bestDayFor_L4 10000 (nI F) z.1 z.2 σ1) 10000 ((1, 2)) = _ := kc
      have km := lp_for (b := fun z : Int32 × Int32 × Int32 => f_X12_ask_L24 10000 (nI w) (nI F) z.1 z.2.1 z.2.2 τ1) (fun k => (nI (bdy (fun d => mal A w F d (cP (aK A))) k), nI (mal A w F (bdy (fun d => mal A w F d (cP (aK A))) k) (cP (aK A))), nI (k + 2))) 8 (nI (bdy (fun d => mal A w F d (cP (aK A))) 8)) (fun k hk => by
        have hb := bdy_le (m := fun d => mal A w F d (cP (aK A))) k
        have m1 := ml (k + 2)
        have m2 := ml (bdy (fun d => mal A w F d (cP (aK A))) k)
        have eb : bdy (fun d => mal A w F d (cP (aK A))) (k + 1) = if mal A w F (k + 2) (cP (aK A)) < mal A w F (bdy (fun d => mal A w F d (cP (aK A))) k) (cP (aK A)) then k + 2 else bdy (fun d => mal A w F d (cP (aK A))) k := rfl
        show f_X12_ask_L24 10000 (nI w) (nI F) (nI (bdy (fun d => mal A w F d (cP (aK A))) k)) (nI (mal A w F (bdy (fun d => mal A w F d (cP (aK A))) k) (cP (aK A)))) (nI (k + 2)) τ1 = _
        unfold f_X12_ask_L24
        rw [if_neg (by rw [nJ_Llt (by omega) (by decide)]; omega), if_neg (by rw [eq0_F (by omega) (by omega)]; exact id), mM (k + 2) (by omega) (by omega), cr_some, if_neg (by rw [nJ_ne_neg (by omega)]; exact id), nJ_addL, eb]
        by_cases c : mal A w F (k + 2) (cP (aK A)) < mal A w F (bdy (fun d => mal A w F d (cP (aK A))) k) (cP (aK A))
        · rw [if_neg (by rw [nJ_le (by omega) (by omega)]; omega), if_pos c]
        · rw [if_pos (by rw [nJ_le (by omega) (by omega)]; omega), if_neg c]) (by
        show f_X12_ask_L24 10000 (nI w) (nI F) _ _ (nI 10) τ1 = _
        unfold f_X12_ask_L24
        rw [if_pos (by decide)]) 9999 0 (by omega) (by omega)
      have first : f_X12_ask_L24 10000 (nI w) (nI F) (-1) 0 1 τ1 = some (.inr (.inl (nI (bdy (fun d => mal A w F d (cP (aK A))) 0), nI (mal A w F (bdy (fun d => mal A w F d (cP (aK A))) 0) (cP (aK A))), nI (0 + 2)))) := by
        unfold f_X12_ask_L24
        rw [if_neg (by decide), if_neg (by rw [eq0_F (by omega) (by omega)]; exact id), show f_X12_mostAlike 10000 (nI F) 1 τ1 = _ from mM 1 (by decide) (by decide), cr_some, if_pos rfl]
        rfl
      unfold f_X7_bestDayFor
      rw [kc, lb_inr, cr_some]
      have km2 : sg_lp (fun z : Int32 × Int32 × Int32 => f_X12_ask_L24 10000 (nI w) (nI F) z.1 z.2.1 z.2.2 τ1) (9999 + 1) ((-1, 0, 1)) = some (.inr (nI (bdy (fun d => mal A w F d (cP (aK A))) 8))) := by
        rw [lp_step first]; exact km
      rw [show sg_lp (fun z : Int32 × Int32 × Int32 => f_X12_ask_L24 10000 (nI w) (nI F) z.1 z.2.1 z.2.2 τ1) 10000 ((-1, 0, 1)) = _ from km2, lb_inr]
      exact ⟨_, _, _, rfl, rfl, f1, f2⟩
  · rw [hasSet_n eC.2.2.1 h, isSet_n eM.2.2.1 h (by omega)]
    exact ⟨_, _, _, rfl, rfl, Fr.rf, Fr.rf⟩
