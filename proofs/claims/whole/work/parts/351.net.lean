/-! both lay them -/
theorem nz7 {α : Type} {K : Option α} : sg_nz 7 K = K := if_neg (by decide)
def fwX (K : Cty) (H : Nat → Nat) (X m q a b : Nat) : Nat := if 7 * a + b < q then fw K H X (m + 1) a b else fw K H X m a b
theorem fwX_col {K : Cty} {H : Nat → Nat} {X m q a : Nat} : fwX K H X m q a m = fw K H X m a m := by
  unfold fwX
  by_cases c : 7 * a + m < q
  · rw [if_pos c, fw_s, fw_ii]; omega
  · rw [if_neg c]
theorem fwX_row {K : Cty} {H : Nat → Nat} {X m q b : Nat} : fwX K H X m q m b = fw K H X m m b := by
  unfold fwX
  by_cases c : 7 * m + b < q
  · rw [if_pos c, fw_s, fw_ii]; omega
  · rw [if_neg c]
theorem fwX_bd {K : Cty} {H : Nat → Nat} {X m q a b : Nat} (h : okH K H) (hm : m < 7) : fwX K H X m q a b ≤ 100000 ∧ (fwX K H X m q a b < 100000 → fwX K H X m q a b ≤ 3072) := by
  unfold fwX
  by_cases c : 7 * a + b < q
  · rw [if_pos c]; exact fw_small h (by omega)
  · rw [if_neg c]; exact fw_small h (by omega)
theorem fwX_up {K : Cty} {H : Nat → Nat} {X m i k a b : Nat} (hk : k < 7) (hb : b < 7) : fwX K H X m (7 * i + k + 1) a b = if a = i ∧ b = k then min (fw K H X m i k) (fw K H X m i m + fw K H X m m k) else fwX K H X m (7 * i + k) a b := by
  unfold fwX
  by_cases c : a = i ∧ b = k
  · rw [if_pos c, if_pos (by omega), c.1, c.2, fw_s]
  · rw [if_neg c]
    by_cases c2 : 7 * a + b < 7 * i + k
    · rw [if_pos c2, if_pos (by omega)]
    · rw [if_neg c2, if_neg (by omega)]
theorem fwC_bd {v : Nat} (h : v ≤ 100000) : fwC v ≤ 1000000 := by unfold fwC; by_cases c : v < 100000 <;> simp only [c, ↓reduceIte] <;> omega
theorem fwC_min {a b c : Nat} (ha : a ≤ 100000 ∧ (a < 100000 → a ≤ 3072)) (hb : b ≤ 100000 ∧ (b < 100000 → b ≤ 3072)) (hc : c ≤ 100000 ∧ (c < 100000 → c ≤ 3072)) : fwC (min a (b + c)) = if fwC a ≤ fwC b + fwC c then fwC a else fwC b + fwC c := by
  unfold fwC
  by_cases c1 : a < 100000
  · by_cases c2 : b < 100000
    · by_cases c3 : c < 100000
      · rw [if_pos c1, if_pos c2, if_pos c3, if_pos (by omega)]
        by_cases c4 : a ≤ b + c
        · rw [if_pos c4]; omega
        · rw [if_neg c4]; omega
      · rw [if_pos c1, if_pos c2, if_neg c3, if_pos (by omega), if_pos (by omega)]; omega
    · rw [if_pos c1, if_neg c2, if_pos (by omega), if_pos (by split <;> omega)]; omega
  · by_cases c2 : b < 100000
    · by_cases c3 : c < 100000
      · rw [if_neg c1, if_pos c2, if_pos c3, if_pos (by omega), if_neg (by omega)]; omega
      · rw [if_neg c1, if_pos c2, if_neg c3, if_neg (by omega), if_pos (by omega)]
    · rw [if_neg c1, if_neg c2, if_neg (by omega), if_pos (by split <;> omega)]
/-! the reference -/
def netM (K : Cty) (H : Nat → Nat) (X : Nat) (τ : sgS) : Prop := (∀ a b, a < 7 → b < 7 → τ.1 26 (7 * a + b) = nI (fwD K H X a b) ∧ τ.1 27 (7 * a + b) = nI (fwW K H X a b)) ∧ ∀ r, r < cR K → τ.1 23 r = nI (H r)
def laM (j k : Nat) : Prop := mlM j k ∨ j = 26 ∨ j = 27
theorem div7 {q : Nat} (_h : q < 49) : 7 * (q / 7) + q % 7 = q := by omega
theorem layAway_ok {N : Nat} {K : Cty} {W : Lws} {S : Sta} {τ : sgS} (hN : 10000 ≤ N) (okk : okK K) (okw : okW W) (hs : okG K S) (hK : MK K τ) (hW : MLw W τ) (hS : MS K S (τ.1 21)) : ∃ τ', f_X12_layAway N τ = some (0, τ') ∧ netM K (hLg K W S) (sX S) τ' ∧ Fr laM τ τ' := by
  have hp7 := okk.1
  have hr12 := okk.2.1
  obtain ⟨τ1, e1, hH, f1⟩ := layLongs_ok (N := N) hN okk okw hs hK hW hS
  have oH : okH K (hLg K W S) := fun r hr => hLg_bd okk hr
  generalize hLg K W S = H at hH oH ⊢
  have f1' : Fr laM τ τ1 := f1.mono (fun j k h => Or.inl h)
  have kp : ∀ {s}, Fr laM τ s → MK K s ∧ s.1 21 31 = nI (sX S) := fun {s} f => ⟨MK_fr hK (fun j h3 h9 => funext fun k => f j k (by unfold laM mlM meM; omega)) (fun k h3 h9 => f 0 k (by unfold laM mlM meM; omega)), by rw [f 21 31 (by unfold laM mlM meM; omega)]; exact hS.2.2.2.2.2.1⟩
  -- the first table
  obtain ⟨τ2, e2, F2, A2, H2⟩ := lp_st (b := fun x : sgS × Int32 => f_X12_layAway_L6 N x.2 x.1) (n := 49) (fun q s => Fr laM τ s ∧ (∀ a b, a < 7 → b < 7 → 7 * a + b < q → s.1 26 (7 * a + b) = nI (fwD K H (sX S) a b) ∧ s.1 27 (7 * a + b) = nI (fw K H (sX S) 0 a b)) ∧ ∀ r, r < cR K → s.1 23 r = nI (H r)) (by
    rintro q s hq ⟨g1, g2, g3⟩
    obtain ⟨k1, k2⟩ := kp g1
    have hi : q / 7 < 7 := by omega
    have hj : q % 7 < 7 := Nat.mod_lt _ (by decide)
    have hD := fwD_bd (K := K) (X := sX S) (i := q / 7) (j := q % 7) oH
    have st : ∀ v, v ≤ 100000 → f_X12_layAway_L6_B73 N (nI q) (nI q) (nI v) s = some (.inr (.inl (sg_up (sg_up s 26 q (nI v)) 27 q (nI (if q / 7 = q % 7 then 0 else v)), nI (q + 1)))) := by
      intro v hv
      unfold f_X12_layAway_L6_B73
      rw [st_ok hq (by decide)]
      simp only [nz7]
      rw [show nI q - nI q / 7 * 7 = nI (q % 7) from nJ_modL (by omega) (by decide), nJ_divL (by omega) (by decide)]
      by_cases c : q / 7 = q % 7
      · rw [if_pos (by rw [c]), if_pos c, st_ok hq (by decide), nJ_addL]; rfl
      · rw [if_neg (by rw [nJ_eq (by omega) (by omega)]; exact c), if_neg c, ld_ok hq (by decide), st_ok hq (by decide), up_at, nJ_addL]
    have ev : f_X12_layAway_L6 N (nI q) s = f_X12_layAway_L6_B73 N (nI q) (nI q) (nI (fwD K H (sX S) (q / 7) (q % 7))) s := by
      have b50 : f_X12_layAway_L6_B50 N (nI q) (wI (sBt K H (sX S) (q / 7) (q % 7) (cR K))) s = f_X12_layAway_L6_B73 N (nI q) (nI q) (nI (fwD K H (sX S) (q / 7) (q % 7))) s := by
        have hle := sBt_le (K := K) (H := H) (X := sX S) (p := q / 7) (q := q % 7) (cR K)
        unfold f_X12_layAway_L6_B50 fwD
        by_cases c : sBt K H (sX S) (q / 7) (q % 7) (cR K) = 0
        · rw [c, wI_0, if_pos rfl, if_pos rfl]; rfl
        · obtain ⟨b, hb⟩ : ∃ b, sBt K H (sX S) (q / 7) (q % 7) (cR K) = b + 1 := ⟨sBt K H (sX S) (q / 7) (q % 7) (cR K) - 1, by omega⟩
          rw [hb] at hle ⊢
          rw [wI_s, if_neg (by rw [nJ_ne_neg (by omega)]; exact id), if_neg (by omega), ld_ok (by omega) (by decide), g3 b (by omega), Nat.add_sub_cancel]
      unfold f_X12_layAway_L6
      rw [if_neg (by rw [nJ_Lle (by omega) (by decide)]; omega), k1.1]
      simp only [nz7]
      rw [show nI q - nI q / 7 * 7 = nI (q % 7) from nJ_modL (by omega) (by decide), nJ_divL (by omega) (by decide)]
      by_cases c1 : q / 7 < cP K
      · rw [if_neg (by rw [nJ_le (by omega) (by omega)]; omega)]
        by_cases c2 : q % 7 < cP K
        · rw [if_neg (by rw [nJ_le (by omega) (by omega)]; omega), roadBetween_ok (H := H) hN okk k1 k2 (fun r hr => ⟨g3 r hr, by have := oH r hr; omega⟩) (by omega) (by omega)]
          exact b50
        · rw [if_pos (by rw [nJ_le (by omega) (by omega)]; omega)]
          have z : sBt K H (sX S) (q / 7) (q % 7) (cR K) = 0 := by
            by_cases c : sBt K H (sX S) (q / 7) (q % 7) (cR K) = 0
            · exact c
            · exfalso
              have hle := sBt_le (K := K) (H := H) (X := sX S) (p := q / 7) (q := q % 7) (cR K)
              exact c2 (btw_lt okk (show sBt K H (sX S) (q / 7) (q % 7) (cR K) - 1 < cR K by omega) (sBt_is _ c).2)
          rw [z, wI_0] at b50
          exact b50
      · rw [if_pos (by rw [nJ_le (by omega) (by omega)]; omega)]
        have z : sBt K H (sX S) (q / 7) (q % 7) (cR K) = 0 := by
          by_cases c : sBt K H (sX S) (q / 7) (q % 7) (cR K) = 0
          · exact c
          · exfalso
            have hle := sBt_le (K := K) (H := H) (X := sX S) (p := q / 7) (q := q % 7) (cR K)
            have := (sBt_is (K := K) (H := H) (X := sX S) (p := q / 7) (q := q % 7) (cR K) c).2
            rw [show btw K (sBt K H (sX S) (q / 7) (q % 7) (cR K) - 1) (q / 7) (q % 7) = btw K (sBt K H (sX S) (q / 7) (q % 7) (cR K) - 1) (q % 7) (q / 7) from by unfold btw; rw [decide_eq_decide]; exact Or.comm] at this
            exact c1 (btw_lt okk (show sBt K H (sX S) (q / 7) (q % 7) (cR K) - 1 < cR K by omega) this)
        rw [z, wI_0] at b50
        exact b50
    refine ⟨_, by show f_X12_layAway_L6 N (nI q) s = _; rw [ev, st _ hD.2.1], (g1.tr (Fr.up (Or.inr (Or.inl rfl)))).tr (Fr.up (Or.inr (Or.inr rfl))), fun a b ha hb hab => ?_, fun r hr => by rw [up_ne (by decide), up_ne (by decide)]; exact g3 r hr⟩
    by_cases c : 7 * a + b = q
    · have ea : a = q / 7 := by omega
      have eb : b = q % 7 := by omega
      rw [c, up_ne (by decide), up_at, up_at, ea, eb]
      exact ⟨rfl, rfl⟩
    · have h2 := g2 a b ha hb (by omega)
      rw [up_ne (by decide), up_nk c, up_nk c, up_ne (by decide)]
      exact h2) (by
    intro s _
    show f_X12_layAway_L6 N (nI 49) s = _
    unfold f_X12_layAway_L6
    rw [if_pos (by decide)]) N 0 τ1 (by omega) (by omega) ⟨f1', fun a b _ _ h => absurd h (Nat.not_lt_zero _), hH⟩
  -- a round
  have round : ∀ m s, m < cP K → Fr laM τ s → (∀ a b, a < 7 → b < 7 → s.1 27 (7 * a + b) = nI (fw K H (sX S) m a b)) → ∃ s', sg_lp (fun x : sgS × Int32 => f_X12_layAway_L119 N (nI m) x.2 x.1) N ((s, 0)) = some (.inr s') ∧ Fr laM τ s' ∧ (∀ a b, a < 7 → b < 7 → s'.1 27 (7 * a + b) = nI (fw K H (sX S) (m + 1) a b)) ∧ ∀ j, j ≠ 27 → s'.1 j = s.1 j := by
    intro m s hm g1 g2
    obtain ⟨s', q1, q2, q3, q4⟩ := lp_st (b := fun x : sgS × Int32 => f_X12_layAway_L119 N (nI m) x.2 x.1) (n := 49) (fun q u => Fr laM τ u ∧ (∀ a b, a < 7 → b < 7 → u.1 27 (7 * a + b) = nI (fwX K H (sX S) m q a b)) ∧ ∀ j, j ≠ 27 → u.1 j = s.1 j) (by
      rintro q u hq ⟨u1, u2, u3⟩
      have hi : q / 7 < 7 := by omega
      have hj : q % 7 < 7 := Nat.mod_lt _ (by decide)
      have v10 := u2 (q / 7) (q % 7) hi hj
      have v11 := u2 (q / 7) m hi (by omega)
      have v12 := u2 m (q % 7) (by omega) hj
      rw [div7 hq] at v10
      rw [fwX_col] at v11
      rw [fwX_row] at v12
      have ex : fwX K H (sX S) m q (q / 7) (q % 7) = fw K H (sX S) m (q / 7) (q % 7) := if_neg (by omega)
      rw [ex] at v10
      have b1 := fw_small (X := sX S) (m := m) (i := q / 7) (j := q % 7) oH (by omega)
      have b2 := fw_small (X := sX S) (m := m) (i := q / 7) (j := m) oH (by omega)
      have b3 := fw_small (X := sX S) (m := m) (i := m) (j := q % 7) oH (by omega)
      refine ⟨sg_up u 27 q (nI (min (fw K H (sX S) m (q / 7) (q % 7)) (fw K H (sX S) m (q / 7) m + fw K H (sX S) m m (q % 7)))), ?_, u1.tr (Fr.up (Or.inr (Or.inr rfl))), fun a b ha hb => ?_, fun j hj => by rw [up_ne hj]; exact u3 j hj⟩
      · show f_X12_layAway_L119 N (nI m) (nI q) u = _
        unfold f_X12_layAway_L119
        rw [if_neg (by rw [nJ_Lle (by omega) (by decide)]; omega), ld_ok hq (by decide), v10]
        simp only [nz7]
        rw [show nI q - nI q / 7 * 7 = nI (q % 7) from nJ_modL (by omega) (by decide), nJ_divL (by omega) (by decide), nJ_Lmul, nJ_add, ld_ok (by omega) (by decide), v11, nJ_Lmul, nJ_add, ld_ok (by omega) (by decide), v12, nJ_add, st_ok hq (by decide), nJ_addL]
        by_cases c : fw K H (sX S) m (q / 7) m + fw K H (sX S) m m (q % 7) < fw K H (sX S) m (q / 7) (q % 7)
        · rw [if_pos (by rw [nJ_lt (by omega) (by omega)]; exact c), Nat.min_eq_right (by omega)]
        · rw [if_neg (by rw [nJ_lt (by omega) (by omega)]; exact c), Nat.min_eq_left (by omega)]
      · have e9 := fwX_up (K := K) (H := H) (X := sX S) (m := m) (i := q / 7) (k := q % 7) (a := a) (b := b) hj hb
        rw [div7 hq] at e9
        rw [e9]
        by_cases c : a = q / 7 ∧ b = q % 7
        · rw [if_pos c, show 7 * a + b = q by omega, up_at]
        · rw [if_neg c, up_nk (by omega)]; exact u2 a b ha hb) (by
      intro u _
      show f_X12_layAway_L119 N (nI m) (nI 49) u = _
      unfold f_X12_layAway_L119
      rw [if_pos (by decide)]) N 0 s (by omega) (by omega) ⟨g1, fun a b ha hb => by rw [g2 a b ha hb]; unfold fwX; rw [if_neg (by omega)], fun _ _ => rfl⟩
    exact ⟨s', q1, q2, fun a b ha hb => by rw [q3 a b ha hb]; unfold fwX; rw [if_pos (by omega)], q4⟩
  obtain ⟨τ3, e3, F3, A3, R3⟩ := lp_st (b := fun x : sgS × Int32 => f_X12_layAway_L109 N x.2 x.1) (n := cP K) (fun m s => Fr laM τ s ∧ (∀ a b, a < 7 → b < 7 → s.1 27 (7 * a + b) = nI (fw K H (sX S) m a b)) ∧ ∀ j, j ≠ 27 → s.1 j = τ2.1 j) (by
    rintro m s hm ⟨g1, g2, g3⟩
    obtain ⟨k1, k2⟩ := kp g1
    obtain ⟨s', q1, q2, q3, q4⟩ := round m s hm g1 g2
    refine ⟨s', ?_, q2, q3, fun j hj => (q4 j hj).trans (g3 j hj)⟩
    show f_X12_layAway_L109 N (nI m) s = _
    unfold f_X12_layAway_L109
    rw [k1.1, if_neg (by rw [nJ_le (by omega) (by omega)]; omega), q1]
    simp only [sg_lb]
    rw [nJ_addL]) (by
    rintro s ⟨g1, -⟩
    obtain ⟨k1, k2⟩ := kp g1
    show f_X12_layAway_L109 N (nI (cP K)) s = _
    unfold f_X12_layAway_L109
    rw [k1.1, if_pos (by rw [nJ_le (by omega) (by omega)]; omega)]) N 0 τ2 (by omega) (by omega) ⟨F2, fun a b ha hb => (A2 a b ha hb (by omega)).2, fun _ _ => rfl⟩
  refine ⟨τ3, ?_, ⟨fun a b ha hb => ⟨by rw [R3 26 (by decide)]; exact (A2 a b ha hb (by omega)).1, A3 a b ha hb⟩, fun r hr => by rw [R3 23 (by decide)]; exact H2 r hr⟩, F3⟩
  unfold f_X12_layAway
  rw [e1]
  simp only [sg_cl]
  have e2 : sg_lp (fun x : sgS × Int32 => f_X12_layAway_L6 N x.2 x.1) N ((τ1, 0)) = _ := e2
  have e3 : sg_lp (fun x : sgS × Int32 => f_X12_layAway_L109 N x.2 x.1) N ((τ2, 0)) = _ := e3
  rw [e2]
  simp only [sg_lb]
  rw [e3]
/-! the class -/
def netC (K : Cty) (H : Nat → Nat) (X : Nat) (σ : sgS) : Prop := (∀ a b, a < cP K → b < cP K → σ.1 (304 + a) b = nI (fwC (fwD K H X a b)) ∧ σ.1 (312 + a) b = nI (fwC (fwW K H X a b))) ∧ σ.1 302 5 = nI (opn K X) ∧ ∀ r, r < cR K → σ.1 51 r = nI (H r)
def meN (j k : Nat) : Prop := meC j k ∨ (j = 302 ∧ k = 5) ∨ (304 ≤ j ∧ j ≤ 310) ∨ (312 ≤ j ∧ j ≤ 318)
theorem netme_ok {N : Nat} {K : Cty} {W : Lws} {S : Sta} {σ : sgS} (hN : 10000 ≤ N) (okk : okK K) (okw : okW W) (hs : okG K S) (hX : sX S < 2 ^ cR K) (hK : CK K σ) (hW : CLw W σ) (hS : CS K S 37 σ) : ∃ σ', f_X5_measure N 37 σ = some (0, σ') ∧ netC K (hLg K W S) (sX S) σ' ∧ Fr meN σ σ' := by
  have hp7 := okk.1
  have hr12 := okk.2.1
  obtain ⟨σ1, e1, hH, f1⟩ := measure_ok (N := N) (o := 37) hN okk okw hs (Or.inl rfl) hK hW hS
  have oH : okH K (hLg K W S) := fun r hr => hLg_bd okk hr
  generalize hLg K W S = H at hH oH ⊢
  have f1' : Fr meN σ σ1 := f1.mono (fun j k h => Or.inl h)
  have kp : ∀ {s}, Fr meN σ s → CK K s ∧ s.1 37 5 = nI (sX S) := fun {s} f => ⟨CK_fr hK (fun j h3 h9 => funext fun k => f j k (by unfold meN meC stkC; omega)), by rw [f 37 5 (by unfold meN meC stkC; omega)]; exact hS.2.2.2.2.2.1⟩
  obtain ⟨c1, c2⟩ := kp f1'
  have f2 : Fr meN σ (sg_up σ1 302 5 (nI (opn K (sX S)))) := f1'.tr (Fr.up (Or.inr (Or.inl ⟨rfl, rfl⟩)))
  -- what one row gets
  have row : ∀ i s, i < cP K → Fr meN σ s → (∀ r, r < cR K → s.1 51 r = nI (H r)) → ∃ s', sg_lp (fun x : sgS × Int32 => f_X5_measure_L41 N 37 (nI i) x.2 x.1) N ((s, 0)) = some (.inr s') ∧ Fr meN σ s' ∧ (∀ b, b < cP K → s'.1 (304 + i) b = nI (fwC (fwD K H (sX S) i b)) ∧ s'.1 (312 + i) b = nI (fwC (fw K H (sX S) 0 i b))) ∧ ∀ j, j ≠ 304 + i → j ≠ 312 + i → s'.1 j = s.1 j := by
    intro i s hi g1 g2
    obtain ⟨s', q1, q2, q3, q4⟩ := lp_st (b := fun x : sgS × Int32 => f_X5_measure_L41 N 37 (nI i) x.2 x.1) (n := cP K) (fun k u => Fr meN σ u ∧ (∀ b, b < k → u.1 (304 + i) b = nI (fwC (fwD K H (sX S) i b)) ∧ u.1 (312 + i) b = nI (fwC (fw K H (sX S) 0 i b))) ∧ ∀ j, j ≠ 304 + i → j ≠ 312 + i → u.1 j = s.1 j) (by
      rintro k u hk ⟨u1, u2, u3⟩
      obtain ⟨k1, k2⟩ := kp u1
      have u51 : ∀ r, r < cR K → u.1 51 r = nI (H r) ∧ H r < 100 := fun r hr => ⟨by rw [u3 51 (by omega) (by omega)]; exact g2 r hr, by have := oH r hr; omega⟩
      have hD := fwD_bd (K := K) (X := sX S) (i := i) (j := k) oH
      have st : ∀ v, v ≤ 1000000 → f_X5_measure_L41_B95 N 37 (nI i) i (nI k) (nI k) (nI v) u = some (.inr (.inl (sg_up (sg_up u (304 + i) k (nI v)) (312 + i) k (nI (if i = k then 0 else v)), nI (k + 1)))) := by
        intro v hv
        unfold f_X5_measure_L41_B95
        rw [st_ok (by omega) (by decide), rf_ok (by omega) (by decide)]
        by_cases c : i = k
        · rw [if_pos (by rw [c]), if_pos c, st_ok (by omega) (by decide), nJ_addL]; rfl
        · rw [if_neg (by rw [nJ_eq (by omega) (by omega)]; exact c), if_neg c, rf_ok (by omega) (by decide), ld_ok (by omega) (by decide), st_ok (by omega) (by decide), up_at, nJ_addL]
      have ev : f_X5_measure_L41 N 37 (nI i) (nI k) u = f_X5_measure_L41_B95 N 37 (nI i) i (nI k) (nI k) (nI (fwC (fwD K H (sX S) i k))) u := by
        have hle := sBt_le (K := K) (H := H) (X := sX S) (p := i) (q := k) (cR K)
        unfold f_X5_measure_L41
        rw [k1.1, if_neg (by rw [nJ_le (by omega) (by omega)]; omega), k2, shortest_ok (H := H) hN okk k1 u51 (by omega) (by omega)]
        simp only [sg_cr]
        rw [rf_ok (by omega) (by decide)]
        unfold fwD
        by_cases c : sBt K H (sX S) i k (cR K) = 0
        · rw [c, wI_0, if_pos rfl, if_pos rfl]; rfl
        · obtain ⟨b, hb⟩ : ∃ b, sBt K H (sX S) i k (cR K) = b + 1 := ⟨sBt K H (sX S) i k (cR K) - 1, by omega⟩
          rw [hb] at hle ⊢
          have := oH b (by omega)
          rw [wI_s, if_neg (by rw [nJ_ne_neg (by omega)]; exact id), if_neg (by omega), ld_ok (by omega) (by decide), (u51 b (by omega)).1, Nat.add_sub_cancel]
          unfold fwC
          rw [if_pos (by omega)]
      refine ⟨_, by show f_X5_measure_L41 N 37 (nI i) (nI k) u = _; rw [ev, st _ (fwC_bd hD.2.1)], (u1.tr (Fr.up (by unfold meN; omega))).tr (Fr.up (by unfold meN; omega)), fun b hb => ?_, fun j h1 h2 => by rw [up_ne h2, up_ne h1]; exact u3 j h1 h2⟩
      by_cases c : b = k
      · rw [c, up_ne (by omega), up_at, up_at]
        refine ⟨rfl, ?_⟩
        show _ = nI (fwC (if i = k then 0 else fwD K H (sX S) i k))
        by_cases c3 : i = k
        · rw [if_pos c3, if_pos c3]; rfl
        · rw [if_neg c3, if_neg c3]
      · rw [up_ne (by omega), up_nk c, up_nk c, up_ne (by omega)]
        exact u2 b (by omega)) (by
      rintro u ⟨u1, -⟩
      obtain ⟨k1, k2⟩ := kp u1
      show f_X5_measure_L41 N 37 (nI i) (nI (cP K)) u = _
      unfold f_X5_measure_L41
      rw [k1.1, if_pos (by rw [nJ_le (by omega) (by omega)]; omega)]) N 0 s (by omega) (by omega) ⟨g1, fun b h => absurd h (Nat.not_lt_zero _), fun _ _ _ => rfl⟩
    exact ⟨s', q1, q2, q3, q4⟩
  obtain ⟨σ2, e2, F2, A2, H2, O2⟩ := lp_st (b := fun x : sgS × Int32 => f_X5_measure_L28 N 37 x.2 x.1) (n := cP K) (fun i s => Fr meN σ s ∧ (∀ a b, a < i → b < cP K → s.1 (304 + a) b = nI (fwC (fwD K H (sX S) a b)) ∧ s.1 (312 + a) b = nI (fwC (fw K H (sX S) 0 a b))) ∧ (∀ r, r < cR K → s.1 51 r = nI (H r)) ∧ s.1 302 5 = nI (opn K (sX S))) (by
    rintro i s hi ⟨g1, g2, g3, g4⟩
    obtain ⟨k1, k2⟩ := kp g1
    obtain ⟨s', q1, q2, q3, q4⟩ := row i s hi g1 g3
    refine ⟨s', ?_, q2, fun a b ha hb => ?_, fun r hr => by rw [q4 51 (by omega) (by omega)]; exact g3 r hr, by rw [q4 302 (by omega) (by omega)]; exact g4⟩
    · show f_X5_measure_L28 N 37 (nI i) s = _
      unfold f_X5_measure_L28
      rw [k1.1, if_neg (by rw [nJ_le (by omega) (by omega)]; omega), q1]
      simp only [sg_lb]
      rw [nJ_addL]
    · by_cases c : a = i
      · rw [c]; exact q3 b hb
      · rw [q4 (304 + a) (by omega) (by omega), q4 (312 + a) (by omega) (by omega)]
        exact g2 a b (by omega) hb) (by
    rintro s ⟨g1, -⟩
    obtain ⟨k1, k2⟩ := kp g1
    show f_X5_measure_L28 N 37 (nI (cP K)) s = _
    unfold f_X5_measure_L28
    rw [k1.1, if_pos (by rw [nJ_le (by omega) (by omega)]; omega)]) N 0 (sg_up σ1 302 5 (nI (opn K (sX S)))) (by omega) (by omega) ⟨f2, fun a b h => absurd h (Nat.not_lt_zero _), fun r hr => by rw [up_ne (by decide)]; exact hH r hr, up_at⟩
  -- a round
  have rnd : ∀ m s, m < cP K → Fr meN σ s → (∀ a b, a < cP K → b < cP K → s.1 (312 + a) b = nI (fwC (fw K H (sX S) m a b))) → ∃ s', f_X5_shortenBy N (nI m) s = some (0, s') ∧ Fr meN σ s' ∧ (∀ a b, a < cP K → b < cP K → s'.1 (312 + a) b = nI (fwC (fw K H (sX S) (m + 1) a b))) ∧ ∀ j, ¬ (312 ≤ j ∧ j ≤ 318) → s'.1 j = s.1 j := by
    intro m s hm g1 g2
    have inner : ∀ i u, i < cP K → Fr meN σ u → (∀ a b, a < cP K → b < cP K → u.1 (312 + a) b = nI (fwC (fwX K H (sX S) m (7 * i) a b))) → (∀ j, ¬ (312 ≤ j ∧ j ≤ 318) → u.1 j = s.1 j) → ∃ u', sg_lp (fun x : sgS × Int32 => f_X5_shortenBy_L15 N (nI m) (nI i) x.2 x.1) N ((u, 0)) = some (.inr u') ∧ Fr meN σ u' ∧ (∀ a b, a < cP K → b < cP K → u'.1 (312 + a) b = nI (fwC (fwX K H (sX S) m (7 * i + cP K) a b))) ∧ ∀ j, ¬ (312 ≤ j ∧ j ≤ 318) → u'.1 j = s.1 j := by
      intro i u hi u1 u2 u3
      obtain ⟨u', q1, q2, q3, q4⟩ := lp_st (b := fun x : sgS × Int32 => f_X5_shortenBy_L15 N (nI m) (nI i) x.2 x.1) (n := cP K) (fun k v => Fr meN σ v ∧ (∀ a b, a < cP K → b < cP K → v.1 (312 + a) b = nI (fwC (fwX K H (sX S) m (7 * i + k) a b))) ∧ ∀ j, ¬ (312 ≤ j ∧ j ≤ 318) → v.1 j = s.1 j) (by
        rintro k v hk ⟨v1, v2, v3⟩
        obtain ⟨k1, k2⟩ := kp v1
        have w10 := v2 i k hi hk
        have w11 := v2 i m hi hm
        have w12 := v2 m k hm hk
        rw [fwX_col] at w11
        rw [fwX_row] at w12
        have ex : fwX K H (sX S) m (7 * i + k) i k = fw K H (sX S) m i k := if_neg (by omega)
        rw [ex] at w10
        have b1 := fw_small (X := sX S) (m := m) (i := i) (j := k) oH (by omega)
        have b2 := fw_small (X := sX S) (m := m) (i := i) (j := m) oH (by omega)
        have b3 := fw_small (X := sX S) (m := m) (i := m) (j := k) oH (by omega)
        have d1 := fwC_bd b1.1
        have d2 := fwC_bd b2.1
        have d3 := fwC_bd b3.1
        have em := fwC_min b1 b2 b3
        have hd : f_X5_shortenBy_L15 N (nI m) (nI i) (nI k) v = if nI (fwC (fw K H (sX S) m i k)) ≤ nI (fwC (fw K H (sX S) m i m) + fwC (fw K H (sX S) m m k)) then some (.inr (.inl (v, nI (k + 1)))) else some (.inr (.inl (sg_up v (312 + i) k (nI (fwC (fw K H (sX S) m i m) + fwC (fw K H (sX S) m m k))), nI (k + 1)))) := by
          unfold f_X5_shortenBy_L15
          rw [k1.1, if_neg (by rw [nJ_le (by omega) (by omega)]; omega), rf_ok (by omega) (by decide), ld_ok (by omega) (by decide), w11, rf_ok (by omega) (by decide), ld_ok (by omega) (by decide), w12, rf_ok (by omega) (by decide), ld_ok (by omega) (by decide), w10, rf_ok (by omega) (by decide), st_ok (by omega) (by decide), nJ_add, nJ_addL]
        by_cases c : fwC (fw K H (sX S) m i k) ≤ fwC (fw K H (sX S) m i m) + fwC (fw K H (sX S) m m k)
        · rw [if_pos c] at em
          refine ⟨v, by show f_X5_shortenBy_L15 N (nI m) (nI i) (nI k) v = _; rw [hd, if_pos (by rw [nJ_le (by omega) (by omega)]; exact c)], v1, fun a b ha hb => ?_, v3⟩
          rw [← Nat.add_assoc, fwX_up (by omega) (by omega)]
          by_cases c4 : a = i ∧ b = k
          · rw [if_pos c4, em, c4.1, c4.2]; exact w10
          · rw [if_neg c4]; exact v2 a b ha hb
        · rw [if_neg c] at em
          refine ⟨_, by show f_X5_shortenBy_L15 N (nI m) (nI i) (nI k) v = _; rw [hd, if_neg (by rw [nJ_le (by omega) (by omega)]; exact c)], v1.tr (Fr.up (by unfold meN; omega)), fun a b ha hb => ?_, fun j hj => by rw [up_ne (by omega)]; exact v3 j hj⟩
          rw [← Nat.add_assoc, fwX_up (by omega) (by omega)]
          by_cases c4 : a = i ∧ b = k
          · rw [if_pos c4, em, c4.1, c4.2, up_at]
          · rw [if_neg c4, up_get, if_neg (by omega)]; exact v2 a b ha hb) (by
        rintro v ⟨v1, -⟩
        obtain ⟨k1, k2⟩ := kp v1
        show f_X5_shortenBy_L15 N (nI m) (nI i) (nI (cP K)) v = _
        unfold f_X5_shortenBy_L15
        rw [k1.1, if_pos (by rw [nJ_le (by omega) (by omega)]; omega)]) N 0 u (by omega) (by omega) ⟨u1, u2, u3⟩
      exact ⟨u', q1, q2, q3, q4⟩
    obtain ⟨s', q1, q2, q3, q4⟩ := lp_st (b := fun x : sgS × Int32 => f_X5_shortenBy_L2 N (nI m) x.2 x.1) (n := cP K) (fun i u => Fr meN σ u ∧ (∀ a b, a < cP K → b < cP K → u.1 (312 + a) b = nI (fwC (fwX K H (sX S) m (7 * i) a b))) ∧ ∀ j, ¬ (312 ≤ j ∧ j ≤ 318) → u.1 j = s.1 j) (by
      rintro i u hi ⟨u1, u2, u3⟩
      obtain ⟨k1, k2⟩ := kp u1
      obtain ⟨u', p1, p2, p3, p4⟩ := inner i u hi u1 u2 u3
      refine ⟨u', ?_, p2, fun a b ha hb => ?_, p4⟩
      · show f_X5_shortenBy_L2 N (nI m) (nI i) u = _
        unfold f_X5_shortenBy_L2
        rw [k1.1, if_neg (by rw [nJ_le (by omega) (by omega)]; omega), p1]
        simp only [sg_lb]
        rw [nJ_addL]
      · rw [p3 a b ha hb]
        unfold fwX
        by_cases c : 7 * a + b < 7 * i + cP K
        · rw [if_pos c, if_pos (by omega)]
        · rw [if_neg c, if_neg (by omega)]) (by
      rintro u ⟨u1, -⟩
      obtain ⟨k1, k2⟩ := kp u1
      show f_X5_shortenBy_L2 N (nI m) (nI (cP K)) u = _
      unfold f_X5_shortenBy_L2
      rw [k1.1, if_pos (by rw [nJ_le (by omega) (by omega)]; omega)]) N 0 s (by omega) (by omega) ⟨g1, fun a b ha hb => by rw [g2 a b ha hb]; unfold fwX; rw [if_neg (by omega)], fun _ _ => rfl⟩
    refine ⟨s', ?_, q2, fun a b ha hb => by rw [q3 a b ha hb]; unfold fwX; rw [if_pos (by omega)], q4⟩
    unfold f_X5_shortenBy
    have q1 : sg_lp (fun x : sgS × Int32 => f_X5_shortenBy_L2 N (nI m) x.2 x.1) N ((s, 0)) = _ := q1
    rw [q1]; rfl
  obtain ⟨σ3, e3, F3, A3, R3⟩ := lp_st (b := fun x : sgS × Int32 => f_X5_measure_L135 N 37 x.2 x.1) (n := cP K) (fun m s => Fr meN σ s ∧ (∀ a b, a < cP K → b < cP K → s.1 (312 + a) b = nI (fwC (fw K H (sX S) m a b))) ∧ ∀ j, ¬ (312 ≤ j ∧ j ≤ 318) → s.1 j = σ2.1 j) (by
    rintro m s hm ⟨g1, g2, g3⟩
    obtain ⟨k1, k2⟩ := kp g1
    obtain ⟨s', q1, q2, q3, q4⟩ := rnd m s hm g1 g2
    refine ⟨s', ?_, q2, q3, fun j hj => (q4 j hj).trans (g3 j hj)⟩
    show f_X5_measure_L135 N 37 (nI m) s = _
    unfold f_X5_measure_L135
    rw [k1.1, if_neg (by rw [nJ_le (by omega) (by omega)]; omega), q1]
    simp only [sg_cl]
    rw [nJ_addL]) (by
    rintro s ⟨g1, -⟩
    obtain ⟨k1, k2⟩ := kp g1
    show f_X5_measure_L135 N 37 (nI (cP K)) s = _
    unfold f_X5_measure_L135
    rw [k1.1, if_pos (by rw [nJ_le (by omega) (by omega)]; omega)]) N 0 σ2 (by omega) (by omega) ⟨F2, fun a b ha hb => (A2 a b ha hb).2, fun _ _ => rfl⟩
  refine ⟨σ3, ?_, ⟨fun a b ha hb => ⟨by rw [R3 (304 + a) (by omega)]; exact (A2 a b ha hb).1, A3 a b ha hb⟩, by rw [R3 302 (by omega)]; exact O2, fun r hr => by rw [R3 51 (by omega)]; exact H2 r hr⟩, F3⟩
  unfold f_X5_measure f_X0_allRoads
  rw [e1]
  simp only [sg_cl, sg_cr, sg_pf]
  rw [c1.2.1, c2, opn_ok hr12 hX]
  have e2 : sg_lp (fun x : sgS × Int32 => f_X5_measure_L28 N 37 x.2 x.1) N ((sg_up σ1 302 5 (nI (opn K (sX S))), 0)) = _ := e2
  have e3 : sg_lp (fun x : sgS × Int32 => f_X5_measure_L135 N 37 x.2 x.1) N ((σ2, 0)) = _ := e3
  rw [e2]
  simp only [sg_lb]
  rw [e3]
