/-! A CLAUSE READ, the reference -/
theorem kp0_n {v : Nat → Nat} {D : Nat → Nat → Nat} {j q : Nat} (c : ¬ (j = 0 ∧ q < 3)) : kpD 0 v D j q = D j q := by
  unfold kpD
  rw [if_pos rfl, if_neg (by omega), if_neg (by omega), if_neg (by omega)]
theorem kp1_n {v : Nat → Nat} {D : Nat → Nat → Nat} {j q : Nat} (c : ¬ (j = 0 ∧ q = 3)) (c2 : ¬ (j = 1 ∧ q = D 0 3)) : kpD 1 v D j q = D j q := by
  unfold kpD
  rw [if_neg (by decide), if_pos rfl, if_neg c2, if_neg c]
theorem kp1_0 {v : Nat → Nat} {D : Nat → Nat → Nat} : kpD 1 v D 1 (D 0 3) = v 0 := by
  unfold kpD
  rw [if_neg (by decide), if_pos rfl, if_pos ⟨rfl, rfl⟩]
theorem kp3_n {v : Nat → Nat} {D : Nat → Nat → Nat} {j q : Nat} (c : ¬ (j = 0 ∧ q = 5)) (c2 : ¬ (j = 6 ∧ q = D 0 5)) : kpD 3 v D j q = D j q := by
  unfold kpD
  rw [if_neg (by decide), if_neg (by decide), if_neg (by decide), if_neg c2, if_neg c]
theorem kp3_0 {v : Nat → Nat} {D : Nat → Nat → Nat} : kpD 3 v D 6 (D 0 5) = v 0 := by
  unfold kpD
  rw [if_neg (by decide), if_neg (by decide), if_neg (by decide), if_pos ⟨rfl, rfl⟩]
theorem clM_k {T : Nat × (Nat → Nat)} {D : Nat → Nat → Nat} {a : Nat} {τ : sgS} (o : okT T) (ha : a ≤ T.1) (hT : tqM T τ) (e : τ.1 0 3 = nI a) (w : τ.1 0 4 = -1) (hD : dqM D τ) (hB : dqB D) (cG : clG T D a) : ∃ τ3, f_X12_readCounty_L54 10000 (nI (D 0 0)) 1 τ = f_X12_readCounty_L54_B268 10000 (nI (kpD (clK T a) (clR T a).2.2 D 0 0)) τ3 ∧ tqM T τ3 ∧ Fr pDm τ τ3 ∧ ((clR T a).1 = true → τ3.1 0 3 = nI (clR T a).2.1 ∧ τ3.1 0 4 = -1 ∧ dqM (kpD (clK T a) (clR T a).2.2 D) τ3) ∧ ((clR T a).1 = false → τ3.1 0 4 = nI (clR T a).2.1) := by
  have h240 := o.1
  have hs := skp_le ha
  have hk := clK_bd o cG.1
  obtain ⟨τ1, s1, s2, s3, s4⟩ := look_ok o (by omega) hT e
  have f1 : Fr pDm τ τ1 := s4.mono (fun j q h => Or.inl ⟨h.1, Or.inl h.2⟩)
  have w1 : τ1.1 0 4 = -1 := by rw [s4 0 4 (by unfold pt; omega)]; exact w
  have hD1 : dqM D τ1 := dqM_fr hD s4 (by unfold pt; omega) (by unfold pt; omega) (by unfold pt; omega) (fun j q h1 h2 => by unfold pt; omega)
  have T8 : tqM T (sg_up τ1 0 3 (nI (skp T a + 1))) := ⟨by rw [up_nk (by decide)]; exact s3.1, fun q hq => by rw [up_ne (by decide)]; exact s3.2 q hq⟩
  have w8 : (sg_up τ1 0 3 (nI (skp T a + 1))).1 0 4 = -1 := by rw [up_nk (by decide)]; exact w1
  obtain ⟨b1, b2, b3, b4, _⟩ := hB
  obtain ⟨a1, a2, a3, a4, a5, d1, d2, d3⟩ := hD1
  have hX := cG.2
  have hc : clK T a = 0 ∨ clK T a = 1 ∨ clK T a = 2 ∨ clK T a = 3 := by omega
  unfold clR
  rcases hc with h | h | h | h <;> rw [h] at hX hk ⊢
  · have hX : D 0 0 < 1 := hX
    have hch : chr T (skp T a) = 115 := (chr_is (c := 115) o (by decide)).mpr ⟨hk.1, hk.2.2⟩
    obtain ⟨τ2, m1, m2, m3, m4, m5⟩ := itM_ok (k := 0) (A := 11) (n := 2) (q0 := 0) (a := skp T a + 1) o (by decide) (by decide) (by decide) (by decide) (by omega) T8 up_at w8
    have m1 : f_X12_items 10000 115 11 2 0 2 (sg_up τ1 0 3 (nI (skp T a + 1))) = some (0, τ2) := m1
    have g : Fr (pIm 0 11 0) τ1 τ2 := Fr.tr (Fr.up (Or.inl ⟨rfl, Or.inl rfl⟩)) m5
    refine ⟨τ2, ?_, m2, f1.tr (g.mono (fun j q h => by unfold pIm at h; unfold pDm; omega)), fun hR => ?_, m4⟩
    · unfold f_X12_readCounty_L54
      rw [if_neg nn10, w, if_pos rfl, s1, cl_some, hch, if_pos rfl, if_pos (show nI (D 0 0) = 0 by rw [show D 0 0 = 0 by omega]; rfl), pf_eq, s2, nJ_addL, m1, cl_some]
      show _ = f_X12_readCounty_L54_B268 10000 (nI (D 0 0 + 1)) τ2
      rw [show D 0 0 = 0 by omega]
      rfl
    · obtain ⟨r1, r2, r3⟩ := m3 hR
      refine ⟨r1, r2, ?_, ?_, ?_, r3 0 (by decide), r3 1 (by decide), fun q hq => ?_, fun q hq => ?_, fun q hq => ?_⟩
      · rw [g 0 21 (by unfold pIm; omega), kp0_n (by omega)]; exact a1
      · rw [g 0 22 (by unfold pIm; omega), kp0_n (by omega)]; exact a2
      · rw [g 0 23 (by unfold pIm; omega), kp0_n (by omega)]; exact a3
      · rw [kp0_n (by omega)] at hq
        rw [g 12 q (by unfold pIm; omega), kp0_n (by omega)]; exact d1 q hq
      · rw [kp0_n (by omega)] at hq
        rw [g 13 _ (by unfold pIm; omega), g 13 _ (by unfold pIm; omega), g 13 _ (by unfold pIm; omega), g 13 _ (by unfold pIm; omega), kp0_n (by omega), kp0_n (by omega), kp0_n (by omega), kp0_n (by omega)]; exact d2 q hq
      · rw [kp0_n (by omega)] at hq
        rw [g 14 q (by unfold pIm; omega), kp0_n (by omega)]; exact d3 q hq
  · have hX : D 0 3 < 7 := hX
    have hch : chr T (skp T a) = 112 := (chr_is (c := 112) o (by decide)).mpr ⟨hk.1, hk.2.2⟩
    obtain ⟨τ2, m1, m2, m3, m4, m5⟩ := itM_ok (k := 1) (A := 12) (n := 7) (q0 := D 0 3) (a := skp T a + 1) o (by decide) (by decide) (by show D 0 3 + 1 ≤ 7; omega) (by decide) (by omega) T8 up_at w8
    have m1 : f_X12_items 10000 112 12 7 (nI (D 0 3)) 1 (sg_up τ1 0 3 (nI (skp T a + 1))) = some (0, τ2) := m1
    have g : Fr (pIm 1 12 (D 0 3)) τ1 τ2 := Fr.tr (Fr.up (Or.inl ⟨rfl, Or.inl rfl⟩)) m5
    have c1 : τ2.1 0 21 = nI (D 0 3) := by rw [g 0 21 (by unfold pIm; omega)]; exact a1
    refine ⟨sg_up τ2 0 21 (nI (D 0 3 + 1)), ?_, ⟨by rw [up_nk (by decide)]; exact m2.1, fun q hq => by rw [up_ne (by decide)]; exact m2.2 q hq⟩, (f1.tr (g.mono (fun j q h => by unfold pIm at h; unfold pDm; omega))).tr (Fr.up (Or.inl ⟨rfl, by decide⟩)), fun hR => ?_, fun hR => by rw [up_nk (by decide)]; exact m4 hR⟩
    · unfold f_X12_readCounty_L54
      rw [if_neg nn10, w, if_pos rfl, s1, cl_some, hch, if_neg (by decide)]
      unfold f_X12_readCounty_L54_B107
      rw [if_pos rfl, a1, if_neg (by rw [nJ_Lle (by omega) (by decide)]; omega), pf_eq, s2, nJ_addL, up_nk (by decide), a1, m1, cl_some, pf_eq, c1, nJ_addL, kp1_n (by omega) (by omega)]
    · obtain ⟨r1, r2, r3⟩ := m3 hR
      refine ⟨by rw [up_nk (by decide)]; exact r1, by rw [up_nk (by decide)]; exact r2, ?_, ?_, ?_, ?_, ?_, fun q hq => ?_, fun q hq => ?_, fun q hq => ?_⟩
      · rw [up_at]; rfl
      · rw [up_nk (by decide), g 0 22 (by unfold pIm; omega), kp1_n (by omega) (by omega)]; exact a2
      · rw [up_nk (by decide), g 0 23 (by unfold pIm; omega), kp1_n (by omega) (by omega)]; exact a3
      · rw [up_ne (by decide), g 11 0 (by unfold pIm; omega), kp1_n (by omega) (by omega)]; exact a4
      · rw [up_ne (by decide), g 11 1 (by unfold pIm; omega), kp1_n (by omega) (by omega)]; exact a5
      · have hq : q < D 0 3 + 1 := hq
        rw [up_ne (by decide)]
        by_cases c : q = D 0 3
        · rw [c, kp1_0]; exact r3 0 (by decide)
        · rw [g 12 q (by unfold pIm; omega), kp1_n (by omega) (by omega)]; exact d1 q (by omega)
      · rw [kp1_n (by omega) (by omega)] at hq
        rw [up_ne (by decide), g 13 _ (by unfold pIm; omega), g 13 _ (by unfold pIm; omega), g 13 _ (by unfold pIm; omega), g 13 _ (by unfold pIm; omega), kp1_n (by omega) (by omega), kp1_n (by omega) (by omega), kp1_n (by omega) (by omega), kp1_n (by omega) (by omega)]; exact d2 q hq
      · rw [kp1_n (by omega) (by omega)] at hq
        rw [up_ne (by decide), g 14 q (by unfold pIm; omega), kp1_n (by omega) (by omega)]; exact d3 q hq
  · have hX : D 0 4 < 12 := hX
    have hch : chr T (skp T a) = 114 := (chr_is (c := 114) o (by decide)).mpr ⟨hk.1, hk.2.2⟩
    obtain ⟨τ2, m1, m2, m3, m4, m5⟩ := itM_ok (k := 2) (A := 13) (n := 48) (q0 := 4 * D 0 4) (a := skp T a + 1) o (by decide) (by decide) (by show 4 * D 0 4 + 4 ≤ 48; omega) (by decide) (by omega) T8 up_at w8
    have m1 : f_X12_items 10000 114 13 48 (nI (4 * D 0 4)) 4 (sg_up τ1 0 3 (nI (skp T a + 1))) = some (0, τ2) := m1
    have g : Fr (pIm 2 13 (4 * D 0 4)) τ1 τ2 := Fr.tr (Fr.up (Or.inl ⟨rfl, Or.inl rfl⟩)) m5
    have c1 : τ2.1 0 22 = nI (D 0 4) := by rw [g 0 22 (by unfold pIm; omega)]; exact a2
    have k00 : kpD 2 (itR T 2 (skp T a + 1)).2.2 D 0 0 = D 0 0 := rfl
    have k0 : ∀ {q}, q ≠ 4 → kpD 2 (itR T 2 (skp T a + 1)).2.2 D 0 q = D 0 q := fun {q} h => by
      unfold kpD
      rw [if_neg (by decide), if_neg (by decide), if_pos rfl, if_neg (by omega), if_neg (by omega), if_neg (by omega), if_neg (by omega), if_neg (fun x => h x.2)]
    have k1 : ∀ {j q}, 1 ≤ j → ¬ (2 ≤ j ∧ j ≤ 5) → kpD 2 (itR T 2 (skp T a + 1)).2.2 D j q = D j q := fun {j q} h h2 => by
      unfold kpD
      rw [if_neg (by decide), if_neg (by decide), if_pos rfl, if_neg (by omega), if_neg (by omega), if_neg (by omega), if_neg (by omega), if_neg (by omega)]
    refine ⟨sg_up τ2 0 22 (nI (D 0 4 + 1)), ?_, ⟨by rw [up_nk (by decide)]; exact m2.1, fun q hq => by rw [up_ne (by decide)]; exact m2.2 q hq⟩, (f1.tr (g.mono (fun j q h => by unfold pIm at h; unfold pDm; omega))).tr (Fr.up (Or.inl ⟨rfl, by decide⟩)), fun hR => ?_, fun hR => by rw [up_nk (by decide)]; exact m4 hR⟩
    · unfold f_X12_readCounty_L54
      rw [if_neg nn10, w, if_pos rfl, s1, cl_some, hch, if_neg (by decide)]
      unfold f_X12_readCounty_L54_B107
      rw [if_neg (by decide)]
      unfold f_X12_readCounty_L54_B159
      rw [if_pos rfl, a2, if_neg (by rw [nJ_Lle (by omega) (by decide)]; omega), pf_eq, s2, nJ_addL, up_nk (by decide), a2, nJ_Lmul, m1, cl_some, pf_eq, c1, nJ_addL, k00]
    · obtain ⟨r1, r2, r3⟩ := m3 hR
      refine ⟨by rw [up_nk (by decide)]; exact r1, by rw [up_nk (by decide)]; exact r2, ?_, ?_, ?_, ?_, ?_, fun q hq => ?_, fun q hq => ?_, fun q hq => ?_⟩
      · rw [up_nk (by decide), g 0 21 (by unfold pIm; omega), k0 (by decide)]; exact a1
      · rw [up_at]; rfl
      · rw [up_nk (by decide), g 0 23 (by unfold pIm; omega), k0 (by decide)]; exact a3
      · rw [up_ne (by decide), g 11 0 (by unfold pIm; omega), k0 (by decide)]; exact a4
      · rw [up_ne (by decide), g 11 1 (by unfold pIm; omega), k0 (by decide)]; exact a5
      · rw [k0 (by decide)] at hq
        rw [up_ne (by decide), g 12 q (by unfold pIm; omega), k1 (by decide) (by decide)]; exact d1 q hq
      · have hq : q < D 0 4 + 1 := hq
        rw [up_ne (by decide)]
        by_cases c : q = D 0 4
        · rw [c, kp2_0, kp2_1, kp2_2, kp2_3]; exact ⟨r3 0 (by decide), r3 1 (by decide), r3 2 (by decide), r3 3 (by decide)⟩
        · rw [g 13 _ (by unfold pIm; omega), g 13 _ (by unfold pIm; omega), g 13 _ (by unfold pIm; omega), g 13 _ (by unfold pIm; omega), kp2_n (by decide) c, kp2_n (by decide) c, kp2_n (by decide) c, kp2_n (by decide) c]; exact d2 q (by omega)
      · rw [k0 (by decide)] at hq
        rw [up_ne (by decide), g 14 q (by unfold pIm; omega), k1 (by decide) (by decide)]; exact d3 q hq
  · have hX : D 0 5 < 4 := hX
    have hch : chr T (skp T a) = 119 := (chr_is (c := 119) o (by decide)).mpr ⟨hk.1, hk.2.2⟩
    obtain ⟨τ2, m1, m2, m3, m4, m5⟩ := itM_ok (k := 3) (A := 14) (n := 4) (q0 := D 0 5) (a := skp T a + 1) o (by decide) (by decide) (by show D 0 5 + 1 ≤ 4; omega) (by decide) (by omega) T8 up_at w8
    have m1 : f_X12_items 10000 119 14 4 (nI (D 0 5)) 1 (sg_up τ1 0 3 (nI (skp T a + 1))) = some (0, τ2) := m1
    have g : Fr (pIm 3 14 (D 0 5)) τ1 τ2 := Fr.tr (Fr.up (Or.inl ⟨rfl, Or.inl rfl⟩)) m5
    have c1 : τ2.1 0 23 = nI (D 0 5) := by rw [g 0 23 (by unfold pIm; omega)]; exact a3
    refine ⟨sg_up τ2 0 23 (nI (D 0 5 + 1)), ?_, ⟨by rw [up_nk (by decide)]; exact m2.1, fun q hq => by rw [up_ne (by decide)]; exact m2.2 q hq⟩, (f1.tr (g.mono (fun j q h => by unfold pIm at h; unfold pDm; omega))).tr (Fr.up (Or.inl ⟨rfl, by decide⟩)), fun hR => ?_, fun hR => by rw [up_nk (by decide)]; exact m4 hR⟩
    · unfold f_X12_readCounty_L54
      rw [if_neg nn10, w, if_pos rfl, s1, cl_some, hch, if_neg (by decide)]
      unfold f_X12_readCounty_L54_B107
      rw [if_neg (by decide)]
      unfold f_X12_readCounty_L54_B159
      rw [if_neg (by decide)]
      unfold f_X12_readCounty_L54_B213
      rw [if_pos rfl, a3, if_neg (by rw [nJ_Lle (by omega) (by decide)]; omega), pf_eq, s2, nJ_addL, up_nk (by decide), a3, m1, cl_some, pf_eq, c1, nJ_addL, kp3_n (by omega) (by omega)]
    · obtain ⟨r1, r2, r3⟩ := m3 hR
      refine ⟨by rw [up_nk (by decide)]; exact r1, by rw [up_nk (by decide)]; exact r2, ?_, ?_, ?_, ?_, ?_, fun q hq => ?_, fun q hq => ?_, fun q hq => ?_⟩
      · rw [up_nk (by decide), g 0 21 (by unfold pIm; omega), kp3_n (by omega) (by omega)]; exact a1
      · rw [up_nk (by decide), g 0 22 (by unfold pIm; omega), kp3_n (by omega) (by omega)]; exact a2
      · rw [up_at]; rfl
      · rw [up_ne (by decide), g 11 0 (by unfold pIm; omega), kp3_n (by omega) (by omega)]; exact a4
      · rw [up_ne (by decide), g 11 1 (by unfold pIm; omega), kp3_n (by omega) (by omega)]; exact a5
      · rw [kp3_n (by omega) (by omega)] at hq
        rw [up_ne (by decide), g 12 q (by unfold pIm; omega), kp3_n (by omega) (by omega)]; exact d1 q hq
      · rw [kp3_n (by omega) (by omega)] at hq
        rw [up_ne (by decide), g 13 _ (by unfold pIm; omega), g 13 _ (by unfold pIm; omega), g 13 _ (by unfold pIm; omega), g 13 _ (by unfold pIm; omega), kp3_n (by omega) (by omega), kp3_n (by omega) (by omega), kp3_n (by omega) (by omega), kp3_n (by omega) (by omega)]; exact d2 q hq
      · have hq : q < D 0 5 + 1 := hq
        rw [up_ne (by decide)]
        by_cases c : q = D 0 5
        · rw [c, kp3_0]; exact r3 0 (by decide)
        · rw [g 14 q (by unfold pIm; omega), kp3_n (by omega) (by omega)]; exact d3 q (by omega)
theorem clM_n {T : Nat × (Nat → Nat)} {D : Nat → Nat → Nat} {a : Nat} {τ : sgS} (o : okT T) (ha : a ≤ T.1) (hT : tqM T τ) (e : τ.1 0 3 = nI a) (w : τ.1 0 4 = -1) (hD : dqM D τ) (hB : dqB D) (cG : ¬ clG T D a) : ∃ τ3, f_X12_readCounty_L54 10000 (nI (D 0 0)) 1 τ = f_X12_readCounty_L54_B268 10000 (nI (D 0 0)) τ3 ∧ tqM T τ3 ∧ Fr pDm τ τ3 ∧ τ3.1 0 4 = nI (skp T a) := by
  have h240 := o.1
  have hs := skp_le ha
  obtain ⟨τ1, s1, s2, s3, s4⟩ := look_ok o (by omega) hT e
  have f1 : Fr pDm τ τ1 := s4.mono (fun j q h => Or.inl ⟨h.1, Or.inl h.2⟩)
  have w1 : τ1.1 0 4 = -1 := by rw [s4 0 4 (by unfold pt; omega)]; exact w
  have hD1 : dqM D τ1 := dqM_fr hD s4 (by unfold pt; omega) (by unfold pt; omega) (by unfold pt; omega) (fun j q h1 h2 => by unfold pt; omega)
  obtain ⟨b1, b2, b3, b4, _⟩ := hB
  obtain ⟨a1, a2, a3, _⟩ := hD1
  -- which letters are full
  have full : ∀ c k, c < 256 → kdS c = k → k < 4 → chr T (skp T a) = nI c → itX k ≤ D 0 (ckI k) := by
    intro c k hc h1 h2 h3
    have h4 := (chr_is (c := c) o (by omega)).mp h3
    have hK : clK T a = k := by unfold clK kdT; rw [if_pos h4.1, h4.2]; exact h1
    refine Nat.le_of_not_lt (fun h => cG ⟨by omega, ?_⟩)
    rw [hK]; exact h
  have f0 : chr T (skp T a) = 115 → 1 ≤ D 0 0 := full 115 0 (by decide) rfl (by decide)
  have f7 : chr T (skp T a) = 112 → 7 ≤ D 0 3 := full 112 1 (by decide) rfl (by decide)
  have f12 : chr T (skp T a) = 114 → 12 ≤ D 0 4 := full 114 2 (by decide) rfl (by decide)
  have f4 : chr T (skp T a) = 119 → 4 ≤ D 0 5 := full 119 3 (by decide) rfl (by decide)
  refine ⟨sg_up τ1 0 4 (nI (skp T a)), ?_, ⟨by rw [up_nk (by decide)]; exact s3.1, fun q hq => by rw [up_ne (by decide)]; exact s3.2 q hq⟩, f1.tr (Fr.up (Or.inl ⟨rfl, by decide⟩)), up_at⟩
  have hb := bad_ok s2 w1
  have b213 : ∀ u, f_X12_readCounty_L54_B213 10000 u (chr T (skp T a)) τ1 = f_X12_readCounty_L54_B268 10000 u (sg_up τ1 0 4 (nI (skp T a))) := by
    intro u
    unfold f_X12_readCounty_L54_B213
    by_cases c : chr T (skp T a) = 119
    · rw [if_pos c, a3, if_pos (by rw [nJ_Lle (by omega) (by decide)]; exact f4 c), hb, cl_some]
    · rw [if_neg c, hb, cl_some]
  have b159 : ∀ u, f_X12_readCounty_L54_B159 10000 u (chr T (skp T a)) τ1 = f_X12_readCounty_L54_B268 10000 u (sg_up τ1 0 4 (nI (skp T a))) := by
    intro u
    unfold f_X12_readCounty_L54_B159
    by_cases c : chr T (skp T a) = 114
    · rw [if_pos c, a2, if_pos (by rw [nJ_Lle (by omega) (by decide)]; exact f12 c), b213]
    · rw [if_neg c, b213]
  have b107 : ∀ u, f_X12_readCounty_L54_B107 10000 u (chr T (skp T a)) τ1 = f_X12_readCounty_L54_B268 10000 u (sg_up τ1 0 4 (nI (skp T a))) := by
    intro u
    unfold f_X12_readCounty_L54_B107
    by_cases c : chr T (skp T a) = 112
    · rw [if_pos c, a1, if_pos (by rw [nJ_Lle (by omega) (by decide)]; exact f7 c), b159]
    · rw [if_neg c, b159]
  unfold f_X12_readCounty_L54
  rw [if_neg nn10, w, if_pos rfl, s1, cl_some]
  by_cases c : chr T (skp T a) = 115
  · have := f0 c
    rw [if_pos c, if_neg (by rw [eq0_F (by omega) (by omega)]; exact id), b107]
  · rw [if_neg c, b107]
