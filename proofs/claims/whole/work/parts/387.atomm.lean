/-! ATOMS, the reference -/
theorem ltS_M : ∀ c : Fin 256, f_X12_letterOf 10000 (nI c.val) zS = some (if ltS c.val < 9 then nI (ltS c.val) else -1) := by decide +kernel
theorem ltT_M {T : Nat × (Nat → Nat)} {s : Nat} {τ : sgS} (o : okT T) : f_X12_letterOf 10000 (chr T s) τ = some (if ltT T s < 9 then nI (ltT T s) else -1) := by
  rw [show f_X12_letterOf 10000 (chr T s) τ = f_X12_letterOf 10000 (chr T s) zS from rfl]
  unfold ltT
  by_cases h : s < T.1
  · have hb := o.2 s h
    rw [if_pos h, chr_y h]
    exact ltS_M ⟨T.2 s, by omega⟩
  · rw [if_neg h, chr_n (by omega)]
    rfl
/-- what a put leaves -/
theorem put_z {n : Nat} {τ τ' : sgS} (f : Fr (fun j q => ((j = 2 ∨ j = 3) ∧ 520 * n ≤ q ∧ q < 520 * n + 520) ∨ (j = 4 ∧ q = n)) τ τ') : τ'.1 0 3 = τ.1 0 3 ∧ τ'.1 0 4 = τ.1 0 4 ∧ τ'.1 0 5 = τ.1 0 5 ∧ Fr (pLm n) τ τ' := ⟨f 0 3 (by omega), f 0 4 (by omega), f 0 5 (by omega), f.mono (fun j q h => Or.inr h)⟩
theorem opens_ok {T : Nat × (Nat → Nat)} {s w : Nat} {τ : sgS} (hw : w < 6) (hT : tqM T τ) (e : τ.1 0 3 = nI s) (w4 : τ.1 0 4 = -1) (w5 : τ.1 0 5 = nI w) : ∃ τ', f_X12_opens 10000 τ = some (0, τ') ∧ tqM T τ' ∧ Fr pLz τ τ' ∧ τ'.1 0 3 = nI (s + 1) ∧ τ'.1 0 4 = -1 ∧ τ'.1 0 5 = nI (w + 1) := by
  unfold f_X12_opens f_X12_opens_B13
  rw [w5, if_neg (by rw [nJ_eqL (by omega) (by decide)]; omega), pf_eq, nJ_addL, pf_eq, up_nk (by decide), e, nJ_addL]
  have F : Fr pLz τ (sg_up (sg_up τ 0 5 (nI (w + 1))) 0 3 (nI (s + 1))) := Fr.tr (Fr.up ⟨rfl, Or.inr (Or.inr rfl)⟩) (Fr.up ⟨rfl, Or.inl rfl⟩)
  exact ⟨_, rfl, tqM_z hT F, F, up_at, by rw [up_nk (by decide), up_nk (by decide)]; exact w4, by rw [up_nk (by decide), up_at]⟩
theorem opens_bad {T : Nat × (Nat → Nat)} {s w : Nat} {τ : sgS} (hw : w = 6) (hT : tqM T τ) (e : τ.1 0 3 = nI s) (w4 : τ.1 0 4 = -1) (w5 : τ.1 0 5 = nI w) : ∃ τ', f_X12_opens 10000 τ = some (0, τ') ∧ tqM T τ' ∧ Fr pLz τ τ' ∧ τ'.1 0 4 = nI s := by
  unfold f_X12_opens f_X12_opens_B13
  rw [w5, if_pos (by rw [hw]; rfl), bad_ok e w4, cl_some, pf_eq, pf_eq]
  have F : ∀ x y, Fr pLz τ (sg_up (sg_up (sg_up τ 0 4 (nI s)) 0 5 x) 0 3 y) := fun x y => Fr.tr (Fr.tr (Fr.up ⟨rfl, Or.inr (Or.inl rfl)⟩) (Fr.up ⟨rfl, Or.inr (Or.inr rfl)⟩)) (Fr.up ⟨rfl, Or.inl rfl⟩)
  exact ⟨_, rfl, tqM_z hT (F _ _), F _ _, by rw [up_nk (by decide), up_nk (by decide), up_at]⟩
/-- it closes, or not -/
theorem closes_ok {T : Nat × (Nat → Nat)} {a w c : Nat} {τ : sgS} (o : okT T) (ha : a ≤ T.1) (hc : c < 1000) (hT : tqM T τ) (e : τ.1 0 3 = nI a) (w4 : τ.1 0 4 = -1) (w5 : τ.1 0 5 = nI (w + 1)) : ∃ τ', f_X12_closes 10000 (nI c) τ = some (0, τ') ∧ tqM T τ' ∧ Fr pLz τ τ' ∧ (((puE T c a).1 = true ∧ τ'.1 0 3 = nI (puE T c a).2.1 ∧ τ'.1 0 4 = -1 ∧ τ'.1 0 5 = nI w) ∨ ((puE T c a).1 = false ∧ τ'.1 0 4 = nI (puE T c a).2.1)) := by
  have h240 := o.1
  obtain ⟨τ1, s1, s2, s3, s4⟩ := look_ok o (by omega) hT e
  have w41 : τ1.1 0 4 = -1 := by rw [s4 0 4 (by unfold pt; omega)]; exact w4
  have w51 : τ1.1 0 5 = nI (w + 1) := by rw [s4 0 5 (by unfold pt; omega)]; exact w5
  unfold f_X12_closes
  rw [w4, if_pos rfl, s1, cl_some]
  unfold puE
  by_cases h : isT c T (skp T a) = true
  · have h2 := isT_lt h
    rw [if_pos ((chr_is o (by omega)).mpr h2), if_pos h]
    unfold f_X12_closes_B20
    rw [pf_eq, s2, nJ_addL, pf_eq, up_nk (by decide), w51, nJ_subL (by omega)]
    have F : Fr pLz τ (sg_up (sg_up τ1 0 3 (nI (skp T a + 1))) 0 5 (nI (w + 1 - 1))) := (pLz_p s4).tr (Fr.tr (Fr.up ⟨rfl, Or.inl rfl⟩) (Fr.up ⟨rfl, Or.inr (Or.inr rfl)⟩))
    exact ⟨_, rfl, tqM_z hT F, F, Or.inl ⟨rfl, by rw [up_nk (by decide), up_at], by rw [up_nk (by decide), up_nk (by decide)]; exact w41, up_at⟩⟩
  · have h2 : ¬ chr T (skp T a) = nI c := fun h3 => h (by unfold isT; exact decide_eq_true ((chr_is o (by omega)).mp h3))
    rw [if_neg h2, if_neg h, bad_ok s2 w41, cl_some]
    unfold f_X12_closes_B20
    rw [pf_eq, pf_eq]
    have F : ∀ x y, Fr pLz τ (sg_up (sg_up (sg_up τ1 0 4 (nI (skp T a))) 0 3 x) 0 5 y) := fun x y => (pLz_p s4).tr (Fr.tr (Fr.tr (Fr.up ⟨rfl, Or.inr (Or.inl rfl)⟩) (Fr.up ⟨rfl, Or.inl rfl⟩)) (Fr.up ⟨rfl, Or.inr (Or.inr rfl)⟩))
    exact ⟨_, rfl, tqM_z hT (F _ _), F _ _, Or.inr ⟨rfl, by rw [up_nk (by decide), up_nk (by decide), up_at]⟩⟩
theorem closes_bad {T : Nat × (Nat → Nat)} {x : Nat} {c : Int32} {τ : sgS} (hx : x < 1000) (hT : tqM T τ) (w4 : τ.1 0 4 = nI x) : ∃ τ', f_X12_closes 10000 c τ = some (0, τ') ∧ tqM T τ' ∧ Fr pLz τ τ' ∧ τ'.1 0 4 = nI x := by
  unfold f_X12_closes f_X12_closes_B20
  rw [w4, if_neg (by rw [nJ_ne_neg (by omega)]; exact id), pf_eq, pf_eq]
  have F : ∀ x y, Fr pLz τ (sg_up (sg_up τ 0 3 x) 0 5 y) := fun x y => Fr.tr (Fr.up ⟨rfl, Or.inl rfl⟩) (Fr.up ⟨rfl, Or.inr (Or.inr rfl)⟩)
  exact ⟨_, rfl, tqM_z hT (F _ _), F _ _, by rw [up_nk (by decide), up_nk (by decide)]; exact w4⟩
theorem bdM_fr {n m e : Nat} {τ τ' : sgS} (h : bdM n m e τ) (f : Fr pLz τ τ') (w : τ'.1 0 4 = nI e) : bdM n m e τ' := ⟨w, by obtain ⟨L, h1, h2⟩ := h.2; exact ⟨L, mqM_fr h1 f, h2⟩⟩
theorem bdM_le {n m m' e : Nat} {τ : sgS} (h : bdM n m e τ) (hm : m ≤ m') : bdM n m' e τ := ⟨h.1, by obtain ⟨L, h1, h2⟩ := h.2; exact ⟨L, h1, by omega⟩⟩
theorem atM {T : Nat × (Nat → Nat)} {n w : Nat} {rec : sgS → Option (Int32 × sgS)} {r : Nat → PR} (o : okT T) (hn : n < 5) (hw : w ≤ 6) (hr : w < 6 → ImM T n (w + 1) rec r) (gr : w < 6 → pgl T 1 r) : ImM T n w (fun τ => f_X12_atom 10000 rec τ) (puA T r w) := by
  intro a τ L ha hT e w4 w5 hL hl
  have h240 := o.1
  have hs := skp_le ha
  have hg := skp_ge (T := T) (a := a)
  obtain ⟨τ1, s1, s2, s3, s4⟩ := look_ok o (by omega) hT e
  have z4 := pLz_p s4
  have hL1 := mqM_fr hL z4
  have w41 : τ1.1 0 4 = -1 := by rw [s4 0 4 (by unfold pt; omega)]; exact w4
  have w51 : τ1.1 0 5 = nI w := by rw [s4 0 5 (by unfold pt; omega)]; exact w5
  show ∃ τ', f_X12_atom 10000 rec τ = some (0, τ') ∧ _
  unfold f_X12_atom puA
  rw [s1, cl_some, dig_M o, cr_some]
  by_cases c1 : dgt T (skp T a) = true
  · have hd := dgt_lt c1
    rw [if_pos c1, if_pos c1, if_neg nn10]
    obtain ⟨τ2, q1, q2, q3, q4, q5, q6⟩ := pn_M o (by omega) s3 s2 w41
    have hL2 := mqM_fr hL1 q3
    obtain ⟨τ3, p1, p2, p3, p4⟩ := put_M (c' := 0) (v := nI (nmF T 4 (skp T a) 0).2.2) hn q2 hL2 (by omega)
    have pz := put_z p4
    rw [q1, cl_some, p1, cl_some]
    refine ⟨τ3, rfl, p2, ((pLm_z z4).tr (pLm_z q3)).tr pz.2.2.2, ?_⟩
    rcases q6 with ⟨g1, g2⟩ | ⟨g1, g2⟩
    · rw [if_pos g1]
      exact Or.inl ⟨rfl, by rw [pz.1]; exact q5, by rw [pz.2.1]; exact g2, by rw [pz.2.2.1, q4]; exact w51, p3⟩
    · rw [if_neg (by rw [g1]; decide)]
      exact Or.inr ⟨rfl, by rw [pz.2.1]; exact g2, _, p3, by rw [List.length_append, List.length_singleton]; omega⟩
  · rw [if_neg c1, if_neg c1, if_pos rfl, ltT_M o, cr_some]
    by_cases c9 : ltT T (skp T a) < 9
    · have hlt := ltT_lt c9
      have U := Fr_pt (σ := τ1) (i := 0) (k := 3) (v := nI (skp T a + 1))
      have zU := pLz_p U
      obtain ⟨τ3, p1, p2, p3, p4⟩ := put_M (c' := 1) (v := nI (ltT T (skp T a))) hn (tqM_z s3 zU) (mqM_fr hL1 zU) (by omega)
      have pz := put_z p4
      rw [if_pos c9, if_neg (by rw [nJ_ne_neg (by omega)]; exact id), pf_eq, s2, nJ_addL, ltT_M o, cr_some, if_pos c9, p1, cl_some, if_pos c9]
      exact ⟨τ3, rfl, p2, (pLm_z (z4.tr zU)).tr pz.2.2.2, Or.inl ⟨rfl, by rw [pz.1, up_at], by rw [pz.2.1, up_nk (by decide)]; exact w41, by rw [pz.2.2.1, up_nk (by decide)]; exact w51, p3⟩⟩
    · rw [if_neg c9, if_pos rfl, if_neg c9]
      by_cases c91 : isT 91 T (skp T a) = true
      · have h91 := isT_lt c91
        rw [if_pos (show chr T (skp T a) = 91 from (chr_is (c := 91) o (by decide)).mpr h91)]
        by_cases c6 : w < 6
        · rw [if_pos ⟨c91, c6⟩]
          obtain ⟨τ2, q1, q2, q3, q4, q5, q6⟩ := opens_ok c6 s3 s2 w41 w51
          rw [q1, cl_some, q5, if_pos rfl]
          obtain ⟨τ3, r1, r2, r3, r4⟩ := hr c6 (skp T a + 1) τ2 L (by omega) q2 q4 q5 q6 (mqM_fr hL1 q3) (by omega)
          have g := gr c6 (skp T a + 1) (by omega)
          have F3 : Fr (pLm n) τ τ3 := (pLm_z (z4.tr q3)).tr r3
          rw [r1, cl_some]
          unfold puB
          rcases r4 with ⟨cc, d3, d4, d5, d6⟩ | ⟨cc, d4⟩
          · obtain ⟨τ4, k1, k2, k3, k4⟩ := closes_ok (c := 93) o g.1 (by decide) r2 d3 d4 d5
            have k1 : f_X12_closes 10000 93 τ3 = some (0, τ4) := k1
            rw [k1, cl_some, if_pos cc, puE_nil, List.append_nil]
            have hL4 := mqM_fr d6 k3
            refine ⟨τ4, rfl, k2, F3.tr (pLm_z k3), ?_⟩
            rcases k4 with ⟨x1, x2, x3, x4⟩ | ⟨x1, x2⟩
            · exact Or.inl ⟨x1, x2, x3, x4, hL4⟩
            · have := (g.2 cc).2.1
              have := g.1
              exact Or.inr ⟨x1, x2, _, hL4, by rw [List.length_append]; omega⟩
          · have g1 := g.1
            obtain ⟨τ4, k1, k2, k3, k4⟩ := closes_bad (c := 93) (by omega) r2 d4.1
            rw [k1, cl_some, if_neg (by rw [cc]; decide)]
            exact ⟨τ4, rfl, k2, F3.tr (pLm_z k3), Or.inr ⟨rfl, bdM_le (bdM_fr d4 k3 k4) (by omega)⟩⟩
        · rw [if_neg (show ¬ (isT 91 T (skp T a) = true ∧ w < 6) from fun h => c6 h.2)]
          obtain ⟨τ2, q1, q2, q3, q4⟩ := opens_bad (by omega) s3 s2 w41 w51
          rw [q1, cl_some, q4, if_neg (by rw [nJ_ne_neg (by omega)]; exact id)]
          exact ⟨τ2, rfl, q2, pLm_z (z4.tr q3), Or.inr ⟨rfl, q4, L, mqM_fr hL1 q3, by omega⟩⟩
      · rw [if_neg (show ¬ chr T (skp T a) = 91 from fun h => c91 (by unfold isT; exact decide_eq_true ((chr_is (c := 91) o (by decide)).mp h))), if_neg (show ¬ (isT 91 T (skp T a) = true ∧ w < 6) from fun h => c91 h.1), bad_ok s2 w41, cl_some]
        have F : Fr pLz τ (sg_up τ1 0 4 (nI (skp T a))) := z4.tr (Fr.up ⟨rfl, Or.inr (Or.inl rfl)⟩)
        exact ⟨_, rfl, tqM_z hT F, pLm_z F, Or.inr ⟨rfl, up_at, L, mqM_fr hL F, by omega⟩⟩
