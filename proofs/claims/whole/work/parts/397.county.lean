/-! TEXT: a county -/
theorem pfE {s : sgS} (i k : Nat) (v : Int32) : ∃ s', (∀ K : sgS → Option (Int32 × sgS), sg_pf s i k v K = K s') ∧ s'.1 i k = v ∧ (∀ q, q ≠ k → s'.1 i q = s.1 i q) ∧ (∀ c, c ≠ i → s'.1 c = s.1 c) := ⟨sg_up s i k v, fun K => pf_eq, up_at, fun q h => up_nk h, fun c h => up_ne h⟩
theorem cpE {s : sgS} (i j n : Nat) (hn : n < 2147483648) : ∃ s', (∀ K : sgS → Option (Int32 × sgS), sg_cp s i n j n 0 0 (nI n) K = K s') ∧ (∀ k, k < n → s'.1 j k = s.1 i k) ∧ (∀ c, c ≠ j → s'.1 c = s.1 c) := ⟨sg_row s j (va_cpy (s.1 i) (s.1 j) 0 0 n), fun K => cp_0 (Nat.le_refl _) (Nat.le_refl _) hn hn, fun k hk => by rw [sg_row_at, cpy_in hk], fun c h => sg_row_nt h⟩
def ctK (D : Nat → Nat → Nat) : Cty := ((D 0 3, D 0 4, D 0 5), (D 0 1, D 0 2), D 1, D 2, D 3, D 4, D 5, D 6)
theorem ctK_ok {D : Nat → Nat → Nat} (b : dqB D) (w : whD D) : okK (ctK D) ∧ cP (ctK D) ≠ 0 := by
  obtain ⟨b0, b3, b4, b5, b1, b2, bU, bR, bT⟩ := b
  obtain ⟨⟨w1, w2, w3⟩, w4, w5⟩ := w
  have h0 : D 0 3 ≠ 0 := by omega
  exact ⟨⟨b3, b4, b5, fun h => absurd h h0, fun _ => ⟨w1, w2, w3, b1.1, b1.2, b2⟩, fun k hk => bU k hk, fun k hk => ⟨(w4 k hk).1, (w4 k hk).2.1, (w4 k hk).2.2, (bR k hk).2.2.1.1, (bR k hk).2.2.1.2, (bR k hk).2.2.2⟩, fun k hk => w5 k hk⟩, h0⟩
theorem copyK {D : Nat → Nat → Nat} {s : sgS} (b : dqB D) (h : dqC D s) : ∃ s', f_X0_copyFrom 10000 3 11 s = some (0, s') ∧ CK (ctK D) s' ∧ ∀ c, (c < 3 ∨ 9 < c) → s'.1 c = s.1 c := by
  obtain ⟨b0, b3, b4, b5, -⟩ := b
  obtain ⟨h1, h2, h3, h4⟩ := h
  obtain ⟨s1, p1, a1, d1, c1⟩ := pfE (s := s) 3 1 (s.1 11 1)
  obtain ⟨s2, p2, a2, d2, c2⟩ := pfE (s := s1) 3 2 (s1.1 11 2)
  obtain ⟨s3, p3, a3, d3, c3⟩ := pfE (s := s2) 3 3 (s2.1 11 3)
  obtain ⟨s4, p4, a4, d4, c4⟩ := pfE (s := s3) 3 4 (s3.1 11 4)
  obtain ⟨s5, p5, a5, d5, c5⟩ := pfE (s := s4) 3 5 (s4.1 11 5)
  obtain ⟨s6, p6, a6, c6⟩ := cpE (s := s5) 12 4 7 (by decide)
  obtain ⟨s7, p7, a7, c7⟩ := cpE (s := s6) 13 5 12 (by decide)
  obtain ⟨s8, p8, a8, c8⟩ := cpE (s := s7) 14 6 12 (by decide)
  obtain ⟨s9, p9, a9, c9⟩ := cpE (s := s8) 15 7 12 (by decide)
  obtain ⟨s10, p10, a10, c10⟩ := cpE (s := s9) 16 8 12 (by decide)
  obtain ⟨s11, p11, a11, c11⟩ := cpE (s := s10) 17 9 4 (by decide)
  have e5 : ∀ c, c ≠ 3 → s5.1 c = s.1 c := fun c h => by rw [c5 c h, c4 c h, c3 c h, c2 c h, c1 c h]
  have e11 : ∀ c, (c < 4 ∨ 9 < c) → s11.1 c = s5.1 c := fun c h => by rw [c11 c (by omega), c10 c (by omega), c9 c (by omega), c8 c (by omega), c7 c (by omega), c6 c (by omega)]
  have f1 : s11.1 3 1 = nI (D 0 1) := by rw [e11 3 (by omega), d5 1 (by decide), d4 1 (by decide), d3 1 (by decide), d2 1 (by decide), a1]; exact h1 1 (by decide)
  have f2 : s11.1 3 2 = nI (D 0 2) := by rw [e11 3 (by omega), d5 2 (by decide), d4 2 (by decide), d3 2 (by decide), a2, c1 11 (by decide)]; exact h1 2 (by decide)
  have f3 : s11.1 3 3 = nI (D 0 3) := by rw [e11 3 (by omega), d5 3 (by decide), d4 3 (by decide), a3, c2 11 (by decide), c1 11 (by decide)]; exact h1 3 (by decide)
  have f4 : s11.1 3 4 = nI (D 0 4) := by rw [e11 3 (by omega), d5 4 (by decide), a4, c3 11 (by decide), c2 11 (by decide), c1 11 (by decide)]; exact h1 4 (by decide)
  have f5 : s11.1 3 5 = nI (D 0 5) := by rw [e11 3 (by omega), a5, c4 11 (by decide), c3 11 (by decide), c2 11 (by decide), c1 11 (by decide)]; exact h1 5 (by decide)
  refine ⟨s11, ?_, ⟨f3, f4, f5, fun _ => ⟨f1, f2⟩, fun k hk => ?_, fun k hk => ⟨?_, ?_, ?_, ?_⟩, fun k hk => ?_⟩, fun c hc => by rw [e11 c (by omega), e5 c (by omega)]⟩
  · exact (p1 _).trans ((p2 _).trans ((p3 _).trans ((p4 _).trans ((p5 _).trans ((p6 _).trans ((p7 _).trans ((p8 _).trans ((p9 _).trans ((p10 _).trans (p11 _))))))))))
  · have hk : k < D 0 3 := hk
    show s11.1 4 k = nI (D 1 k)
    rw [c11 4 (by decide), c10 4 (by decide), c9 4 (by decide), c8 4 (by decide), c7 4 (by decide), a6 k (by omega), e5 12 (by decide)]
    exact h2 k hk
  · have hk : k < D 0 4 := hk
    show s11.1 5 k = nI (D 2 k)
    rw [c11 5 (by decide), c10 5 (by decide), c9 5 (by decide), c8 5 (by decide), a7 k (by omega), c6 13 (by decide), e5 13 (by decide)]
    exact (h3 k hk).1
  · have hk : k < D 0 4 := hk
    show s11.1 6 k = nI (D 3 k)
    rw [c11 6 (by decide), c10 6 (by decide), c9 6 (by decide), a8 k (by omega), c7 14 (by decide), c6 14 (by decide), e5 14 (by decide)]
    exact (h3 k hk).2.1
  · have hk : k < D 0 4 := hk
    show s11.1 7 k = nI (D 4 k)
    rw [c11 7 (by decide), c10 7 (by decide), a9 k (by omega), c8 15 (by decide), c7 15 (by decide), c6 15 (by decide), e5 15 (by decide)]
    exact (h3 k hk).2.2.1
  · have hk : k < D 0 4 := hk
    show s11.1 8 k = nI (D 5 k)
    rw [c11 8 (by decide), a10 k (by omega), c9 16 (by decide), c8 16 (by decide), c7 16 (by decide), c6 16 (by decide), e5 16 (by decide)]
    exact (h3 k hk).2.2.2
  · have hk : k < D 0 5 := hk
    show s11.1 9 k = nI (D 6 k)
    rw [a11 k (by omega), c10 17 (by decide), c9 17 (by decide), c8 17 (by decide), c7 17 (by decide), c6 17 (by decide), e5 17 (by decide)]
    exact h4 k hk
theorem cpLp {b : sgS × Int32 → Option ((Int32 × sgS) ⊕ ((sgS × Int32) ⊕ sgS))} {s : sgS} (d n : Nat) (v : Nat → Int32) (hn : n < 10000) (hb : ∀ k s', k < n → (∀ j, j ≠ d → s'.1 j = s.1 j) → b (s', nI k) = some (.inr (.inl (sg_up s' d k (v k), nI (k + 1))))) (he : ∀ s', b (s', nI n) = some (.inr (.inr s'))) : ∃ s', sg_lp b 10000 (s, 0) = some (.inr s') ∧ (∀ k, k < n → s'.1 d k = v k) ∧ ∀ j, j ≠ d → s'.1 j = s.1 j := by
  obtain ⟨s', e, h⟩ := lp_st (b := b) (n := n) (fun k s' => (∀ q, q < k → s'.1 d q = v q) ∧ ∀ j, j ≠ d → s'.1 j = s.1 j) (by
    rintro k s1 hk ⟨g1, g2⟩
    refine ⟨_, hb k s1 hk g2, fun q hq => ?_, fun j hj => by rw [up_ne hj]; exact g2 j hj⟩
    by_cases c : q = k
    · rw [c, up_at]
    · rw [up_nk c]; exact g1 q (by omega)) (fun s1 _ => he s1) 10000 0 s (Nat.zero_le _) (by omega) ⟨fun q hq => absurd hq (Nat.not_lt_zero _), fun j _ => rfl⟩
  exact ⟨s', e, h⟩
theorem takeK {D : Nat → Nat → Nat} {s : sgS} (b : dqB D) (w : whD D) (h : dqM D s) : ∃ s', f_X12_takeCounty 10000 s = some (nI (D 0 3), s') ∧ MK (ctK D) s' ∧ MS (ctK D) (begS (ctK D)) (s'.1 21) ∧ s'.1 21 34 = 0 ∧ s'.1 0 54 = 0 ∧ s'.1 0 42 = 0 ∧ s'.1 0 57 = 0 ∧ Fr (fun j k => (j = 0 ∧ ((28 ≤ k ∧ k ≤ 30) ∨ k = 42 ∨ k = 54 ∨ k = 57)) ∨ (15 ≤ j ∧ j ≤ 18) ∨ j = 21) s s' := by
  obtain ⟨okk, h0⟩ := ctK_ok b w
  obtain ⟨b0, b3, b4, b5, -⟩ := b
  obtain ⟨h1, h2, h3, h4, h5, h6, h7, h8⟩ := h
  obtain ⟨s1, p1, a1, d1, c1⟩ := pfE (s := s) 0 28 (s.1 0 21)
  obtain ⟨s2, p2, a2, d2, c2⟩ := pfE (s := s1) 0 29 (s1.1 0 22)
  obtain ⟨s3, p3, a3, d3, c3⟩ := pfE (s := s2) 0 30 (s2.1 0 23)
  obtain ⟨s4, p4, a4, c4⟩ := cpLp (b := fun x => f_X12_takeCounty_L26 10000 x.2 x.1) (s := s3) 15 2 (fun k => s3.1 11 k) (by decide) (fun k s' hk g => by
    show f_X12_takeCounty_L26 10000 (nI k) s' = _
    unfold f_X12_takeCounty_L26
    rw [if_neg (by rw [nJ_Lle (by omega) (by decide)]; omega), ld_ok (by omega) (by decide), st_ok (by omega) (by decide), nJ_addL, g 11 (by decide)]) (fun s' => by
    show f_X12_takeCounty_L26 10000 (nI 2) s' = _
    unfold f_X12_takeCounty_L26
    rw [if_pos (by decide)])
  obtain ⟨s5, p5, a5, c5⟩ := cpLp (b := fun x => f_X12_takeCounty_L51 10000 x.2 x.1) (s := s4) 16 7 (fun k => s4.1 12 k) (by decide) (fun k s' hk g => by
    show f_X12_takeCounty_L51 10000 (nI k) s' = _
    unfold f_X12_takeCounty_L51
    rw [if_neg (by rw [nJ_Lle (by omega) (by decide)]; omega), ld_ok (by omega) (by decide), st_ok (by omega) (by decide), nJ_addL, g 12 (by decide)]) (fun s' => by
    show f_X12_takeCounty_L51 10000 (nI 7) s' = _
    unfold f_X12_takeCounty_L51
    rw [if_pos (by decide)])
  obtain ⟨s6, p6, a6, c6⟩ := cpLp (b := fun x => f_X12_takeCounty_L77 10000 x.2 x.1) (s := s5) 17 48 (fun k => s5.1 13 k) (by decide) (fun k s' hk g => by
    show f_X12_takeCounty_L77 10000 (nI k) s' = _
    unfold f_X12_takeCounty_L77
    rw [if_neg (by rw [nJ_Lle (by omega) (by decide)]; omega), ld_ok (by omega) (by decide), st_ok (by omega) (by decide), nJ_addL, g 13 (by decide)]) (fun s' => by
    show f_X12_takeCounty_L77 10000 (nI 48) s' = _
    unfold f_X12_takeCounty_L77
    rw [if_pos (by decide)])
  obtain ⟨s7, p7, a7, c7⟩ := cpLp (b := fun x => f_X12_takeCounty_L103 10000 x.2 x.1) (s := s6) 18 4 (fun k => s6.1 14 k) (by decide) (fun k s' hk g => by
    show f_X12_takeCounty_L103 10000 (nI k) s' = _
    unfold f_X12_takeCounty_L103
    rw [if_neg (by rw [nJ_Lle (by omega) (by decide)]; omega), ld_ok (by omega) (by decide), st_ok (by omega) (by decide), nJ_addL, g 14 (by decide)]) (fun s' => by
    show f_X12_takeCounty_L103 10000 (nI 4) s' = _
    unfold f_X12_takeCounty_L103
    rw [if_pos (by decide)])
  obtain ⟨s8, p8, a8, c8⟩ := cpLp (b := fun x => f_X12_takeCounty_L128 10000 x.2 x.1) (s := s7) 21 215 (fun _ => 0) (by decide) (fun k s' hk g => by
    show f_X12_takeCounty_L128 10000 (nI k) s' = _
    unfold f_X12_takeCounty_L128
    rw [if_neg (by rw [nJ_Lle (by omega) (by decide)]; omega), st_ok (by omega) (by decide), nJ_addL]) (fun s' => by
    show f_X12_takeCounty_L128 10000 (nI 215) s' = _
    unfold f_X12_takeCounty_L128
    rw [if_pos (by decide)])
  have e3 : ∀ c, c ≠ 0 → s3.1 c = s.1 c := fun c h => by rw [c3 c h, c2 c h, c1 c h]
  have e8 : ∀ c, (c < 15 ∨ (18 < c ∧ c < 21) ∨ 21 < c) → s8.1 c = s3.1 c := fun c h => by rw [c8 c (by omega), c7 c (by omega), c6 c (by omega), c5 c (by omega), c4 c (by omega)]
  have f28 : s8.1 0 28 = nI (D 0 3) := by rw [e8 0 (by omega), d3 28 (by decide), d2 28 (by decide), a1]; exact h1
  have f29 : s8.1 0 29 = nI (D 0 4) := by rw [e8 0 (by omega), d3 29 (by decide), a2, d1 22 (by decide)]; exact h2
  have f30 : s8.1 0 30 = nI (D 0 5) := by rw [e8 0 (by omega), a3, d2 23 (by decide), d1 23 (by decide)]; exact h3
  have g15 : ∀ k, k < 2 → s8.1 15 k = s.1 11 k := fun k hk => by rw [c8 15 (by decide), c7 15 (by decide), c6 15 (by decide), c5 15 (by decide), a4 k hk, e3 11 (by decide)]
  have g16 : ∀ k, k < 7 → s8.1 16 k = s.1 12 k := fun k hk => by rw [c8 16 (by decide), c7 16 (by decide), c6 16 (by decide), a5 k hk, c4 12 (by decide), e3 12 (by decide)]
  have g17 : ∀ k, k < 48 → s8.1 17 k = s.1 13 k := fun k hk => by rw [c8 17 (by decide), c7 17 (by decide), a6 k hk, c5 13 (by decide), c4 13 (by decide), e3 13 (by decide)]
  have g18 : ∀ k, k < 4 → s8.1 18 k = s.1 14 k := fun k hk => by rw [c8 18 (by decide), a7 k hk, c6 14 (by decide), c5 14 (by decide), c4 14 (by decide), e3 14 (by decide)]
  have hK : MK (ctK D) s8 := by
    refine ⟨f28, f29, f30, fun _ => ⟨?_, ?_⟩, fun k hk => ?_, fun k hk => ⟨?_, ?_, ?_, ?_⟩, fun k hk => ?_⟩
    · rw [g15 0 (by decide)]; exact h4
    · rw [g15 1 (by decide)]; exact h5
    · have hk : k < D 0 3 := hk
      rw [g16 k (by omega)]; exact h6 k hk
    · have hk : k < D 0 4 := hk
      rw [g17 _ (by omega)]; exact (h7 k hk).1
    · have hk : k < D 0 4 := hk
      rw [g17 _ (by omega)]; exact (h7 k hk).2.1
    · have hk : k < D 0 4 := hk
      rw [g17 _ (by omega)]; exact (h7 k hk).2.2.1
    · have hk : k < D 0 4 := hk
      rw [g17 _ (by omega)]; exact (h7 k hk).2.2.2
    · have hk : k < D 0 5 := hk
      rw [g18 k (by omega)]; exact h8 k hk
  obtain ⟨s9, p9, m9, f9⟩ := layTold_ok (N := 10000) (by decide) okk h0 hK
  obtain ⟨s10, p10, a10, d10, c10⟩ := pfE (s := s9) 0 54 0
  obtain ⟨s11, p11, a11, d11, c11⟩ := pfE (s := s10) 0 42 0
  obtain ⟨s12, p12, a12, d12, c12⟩ := pfE (s := s11) 0 57 0
  have e12 : ∀ c, c ≠ 0 → s12.1 c = s9.1 c := fun c h => by rw [c12 c h, c11 c h, c10 c h]
  have e0 : ∀ q, q ≠ 54 → q ≠ 42 → q ≠ 57 → s12.1 0 q = s8.1 0 q := fun q x1 x2 x3 => by rw [d12 q x3, d11 q x2, d10 q x1, f9 0 q (by unfold p21; omega)]
  refine ⟨s12, ?_, MK_fr hK (fun j x1 x2 => by rw [e12 j (by omega)]; exact funext fun q => f9 j q (by unfold p21; omega)) (fun q x1 x2 => e0 q (by omega) (by omega) (by omega)), by rw [e12 21 (by decide)]; exact m9, by rw [e12 21 (by decide), f9 21 34 (by unfold p21; omega)]; exact a8 34 (by decide), by rw [d12 54 (by decide), d11 54 (by decide)]; exact a10, by rw [d12 42 (by decide)]; exact a11, a12, fun j k hp => ?_⟩
  · unfold f_X12_takeCounty
    rw [p1, p2, p3, p4, lb_inr, p5, lb_inr, p6, lb_inr, p7, lb_inr, p8, lb_inr, p9, cl_some, p10, p11, p12, e0 28 (by decide) (by decide) (by decide), f28]
  · by_cases hj : j = 0
    · subst hj
      rw [e0 k (by omega) (by omega) (by omega), e8 0 (by omega), d3 k (by omega), d2 k (by omega), d1 k (by omega)]
    · rw [e12 j hj, f9 j k (by unfold p21; omega), e8 j (by omega), e3 j hj]
theorem text0 {A : Abs} {σ τ : sgS} (ok : okA A) (C : RelC A σ) (M : RelM A τ) : ∃ r σ' τ' A', f_X11_text 10000 0 σ = some (r, σ') ∧ f_X12_text 10000 0 τ = some (r, τ') ∧ okA A' ∧ RelC A' σ' ∧ RelM A' τ' := by
  have okL4 : (aL A).1 ≤ 4 := ok.2.2.1.1
  have okY4 : wN (aY A) ≤ 4 := ok.2.2.2.1.1
  have gC := RelC_iff.mp C
  have gM := RelM_iff.mp M
  have o : okT (aT A) := ok.1
  have h240 := o.1
  have hTC : tqC (aT A) σ := gC.1
  have hTM : tqM (aT A) τ := gM.1
  have hbd := ctR_bd o
  obtain ⟨σ1, z1, q1, q2, q3, q4, q5⟩ := ctC_ok o hTC
  obtain ⟨τ1, y1, r1, r2, r3, r4⟩ := ctM_ok o hTM
  have C1 := relC_cty ok C q4
  have M1 := relM_cty M r3
  have eC := txC_eq (reads0 q1 (by rcases q5 with h | h; exact Or.inr h.2.1; exact Or.inl h.2))
  unfold txC at eC
  have eR : f_X11_hasRoomFor 10000 0 σ1 = some 1 := by
    unfold f_X11_hasRoomFor
    rw [if_neg (by decide), if_neg (by decide)]
    rfl
  have b22 : ∀ s, f_X12_text_B22 10000 0 s = some (-1, s) := fun s => by
    unfold f_X12_text_B22 f_X12_text_B69
    rw [if_neg (by decide), if_neg (by decide)]
  have eM : f_X12_text 10000 0 τ = (if y1 = -1 then (sg_pf τ1 0 2 0 fun s11 => sg_cl (f_X12_takeCounty 10000 s11) fun v12 s13 => some (v12, s13)) else some (-1, τ1)) := by
    unfold f_X12_text
    rw [if_pos rfl, r1, cl_some, b22]
  rcases q5 with ⟨g, hz, hD⟩ | ⟨g, hz⟩
  · obtain ⟨hy, hDM⟩ : y1 = -1 ∧ dqM (ctR (aT A)).2.2 τ1 := by
      rcases r4 with ⟨g2, hy⟩ | ⟨g2, hy⟩
      · exact hy
      · exact absurd g g2
    have hB := hbd.2
    have hW := g.2
    generalize (ctR (aT A)).2.2 = D at hD hDM hB hW
    obtain ⟨okk, h0⟩ := ctK_ok hB hW
    obtain ⟨u1, p1, a1, d1, c1⟩ := pfE (s := σ1) 1 1 0
    have hD1 : dqC D u1 := by
      unfold dqC at hD ⊢
      rw [c1 11 (by decide), c1 12 (by decide), c1 13 (by decide), c1 14 (by decide), c1 15 (by decide), c1 16 (by decide), c1 17 (by decide)]
      exact hD
    obtain ⟨u2, p2, k2, c2⟩ := copyK hB hD1
    obtain ⟨u3, p3, k3, f3⟩ := begin_ok (N := 10000) (o := 37) (by decide) okk h0 (by decide) k2
    obtain ⟨u4, p4, a4, d4, c4⟩ := pfE (s := u3) 52 1 0
    obtain ⟨u5, p5, a5, d5, c5⟩ := pfE (s := u4) 52 6 0
    obtain ⟨u6, p6, a6, d6, c6⟩ := pfE (s := u5) 320 9 0
    have pfg : f_X6_forget 10000 u3 = some (0, u5) := (p4 _).trans (p5 _)
    have e3 : ∀ c, (c < 3 ∨ (9 < c ∧ c < 37) ∨ 42 < c) → u3.1 c = u1.1 c := fun c h => by
      have : u3.1 c = u2.1 c := funext fun q => f3 c q (by unfold pb; omega)
      rw [this, c2 c (by omega)]
    have e33 : ∀ c, 3 ≤ c → c ≤ 9 → u3.1 c = u2.1 c := fun c x1 x2 => funext fun q => f3 c q (by unfold pb; omega)
    have e6 : ∀ c, c ≠ 52 → c ≠ 320 → u6.1 c = u3.1 c := fun c x1 x2 => by rw [c6 c x2, c5 c x1, c4 c x1]
    have kK : CK (ctK D) u6 := CK_fr k2 (fun j x1 x2 => by rw [e6 j (by omega) (by omega), e33 j x1 x2])
    have kS : CS (ctK D) (begS (ctK D)) 37 u6 := CS_congr (fun i hi => e6 _ (by omega) (by omega)) k3
    have r33 : u6.1 3 3 = nI (D 0 3) := kK.1
    rw [hz, if_neg nn10, eR, cr_some, if_neg nn10, p1, if_neg (show ¬ (0 : Int32) = 1 by decide), if_neg (show ¬ (0 : Int32) = 2 by decide)] at eC
    unfold f_X11_beginCounty at eC
    rw [p2, cl_some, p3, cl_some, pfg, cl_some, p6, cl_some, r33] at eC
    obtain ⟨v1, m1, b1, g1, n1⟩ := pfE (s := τ1) 0 2 0
    have hDM1 : dqM D v1 := by
      unfold dqM at hDM ⊢
      rw [n1 11 (by decide), n1 12 (by decide), n1 13 (by decide), n1 14 (by decide), g1 21 (by decide), g1 22 (by decide), g1 23 (by decide)]
      exact hDM
    obtain ⟨v2, m2, t1, t2, t3, t4, t5, t6, t7⟩ := takeK hB hW hDM1
    rw [hy, if_pos rfl, m1, m2, cl_some] at eM
    have gC := RelC_iff.mp C1
    have gM := RelM_iff.mp M1
    have fC : Fr (fun j k => (j = 1 ∧ k = 1) ∨ (3 ≤ j ∧ j ≤ 9) ∨ (37 ≤ j ∧ j ≤ 42) ∨ (j = 52 ∧ (k = 1 ∨ k = 6)) ∨ (j = 320 ∧ k = 9)) σ1 u6 := fun j k hp => by
      by_cases h52 : j = 52
      · subst h52
        rw [c6 52 (by decide), d5 k (by omega), d4 k (by omega), e3 52 (by omega), c1 52 (by decide)]
      · by_cases h320 : j = 320
        · subst h320
          rw [d6 k (by omega), c5 320 (by decide), c4 320 (by decide), e3 320 (by omega), c1 320 (by decide)]
        · rw [e6 j h52 h320, e3 j (by omega)]
          by_cases hj : j = 1
          · subst hj
            exact d1 k (by omega)
          · rw [c1 j hj]
    have fM : Fr (fun j k => (j = 0 ∧ (k = 2 ∨ (28 ≤ k ∧ k ≤ 30) ∨ k = 42 ∨ k = 54 ∨ k = 57)) ∨ (15 ≤ j ∧ j ≤ 18) ∨ j = 21) τ1 v2 := fun j k hp => by
      rw [t7 j k (by omega)]
      by_cases hj : j = 0
      · subst hj; exact g1 k (by omega)
      · rw [n1 j hj]
    obtain ⟨pp1, nx, pp2, pp3, pp4⟩ := gC.2.2.2.2.2.1
    refine ⟨_, _, _, ((0, (aT A).2), ctK D, aL A, aY A, (begS (ctK D), aG A), (0, aH A, 0), (0, (aI A).2), (0, (aV A).2), aF A, aR A), eC, eM, ⟨⟨Nat.zero_le _, fun k hk => absurd hk (Nat.not_lt_zero _)⟩, okk, ok.2.2.1, ok.2.2.2.1, fun _ => ⟨rfl, rfl, rfl, rfl⟩, fun _ => begS_ok okk h0, ⟨Nat.zero_le _, fun a ha => absurd ha (Nat.not_lt_zero _), fun a ha => absurd ha (Nat.not_lt_zero _), fun a ha => Or.inl rfl⟩, Nat.zero_le _, ⟨Nat.zero_le _, fun h => absurd rfl h⟩, ⟨Nat.zero_le _, fun k hk => absurd hk (Nat.not_lt_zero _)⟩, ok.2.2.2.2.2.2.2.2.2.2⟩, RelC_iff.mpr ⟨⟨?_, fun k hk => absurd hk (Nat.not_lt_zero _)⟩, kK, (gCL_fr fC (fun j k hx => by unfold xCL at hx; (try unfold pt); (try unfold pb); (try unfold p21); (try unfold scC); (try unfold scM); omega) rfl okL4 gC.2.2.1), (gCY_fr fC (fun j k hx => by unfold xCY at hx; (try unfold pt); (try unfold pb); (try unfold p21); (try unfold scC); (try unfold scM); omega) rfl okY4 gC.2.2.2.1), ⟨fun _ => kS, kS.2.2.2.2.2.2.2, fun e h1 h2 => ?_⟩, ⟨?_, nx, pp2, ?_, fun a ha => absurd ha (Nat.not_lt_zero _)⟩, ⟨?_, fun h => absurd rfl h⟩, ⟨?_, fun k hk => absurd hk (Nat.not_lt_zero _)⟩, (gCF_fr fC (fun j k hx => by unfold xCF at hx; (try unfold pt); (try unfold pb); (try unfold p21); (try unfold scC); (try unfold scM); omega) rfl gC.2.2.2.2.2.2.2.2.1), (gCR_fr fC (fun j k hx => by unfold xCR at hx; (try unfold pt); (try unfold pb); (try unfold p21); (try unfold scC); (try unfold scM); omega) rfl gC.2.2.2.2.2.2.2.2.2)⟩, RelM_iff.mpr ⟨⟨?_, fun k hk => absurd hk (Nat.not_lt_zero _)⟩, t1, (gML_fr fM (fun j k hx => by unfold xML at hx; (try unfold pt); (try unfold pb); (try unfold p21); (try unfold scC); (try unfold scM); omega) rfl gM.2.2.1), (gMY_fr fM (fun j k hx => by unfold xMY at hx; (try unfold pt); (try unfold pb); (try unfold p21); (try unfold scC); (try unfold scM); omega) rfl gM.2.2.2.1), ⟨fun _ => t2, t2.2.2.2.2.2.2.2, ⟨t3, fun i hi => absurd hi (Nat.not_lt_zero _)⟩⟩, ⟨t5, fun a ha => absurd ha (Nat.not_lt_zero _)⟩, ⟨t6, fun h => absurd rfl h⟩, ⟨t4, fun k hk => absurd hk (Nat.not_lt_zero _)⟩, (gMF_fr fM (fun j k hx => by unfold xMF at hx; (try unfold pt); (try unfold pb); (try unfold p21); (try unfold scC); (try unfold scM); omega) rfl gM.2.2.2.2.2.2.2.2.1), (gMR_fr fM (fun j k hx => by unfold xMR at hx; (try unfold pt); (try unfold pb); (try unfold p21); (try unfold scC); (try unfold scM); omega) rfl gM.2.2.2.2.2.2.2.2.2)⟩⟩
    · rw [e6 1 (by decide) (by decide), e3 1 (by omega)]; exact a1
    · exfalso
      have h2 : e ≤ 0 := h2
      omega
    · rw [c6 52 (by decide), d5 1 (by decide)]; exact a4
    · rw [fC 52 2 (by omega)]; exact pp3
    · rw [c6 52 (by decide)]; exact a5
    · exact a6
    · rw [t7 0 2 (by omega)]; exact b1
  · have hy : ¬ y1 = -1 := by
      rcases r4 with ⟨g2, hy⟩ | ⟨g2, hy⟩
      · exact absurd g2 g
      · have := hbd.1
        rw [hy, nJ_ne_neg (by omega)]; exact id
    rw [if_neg hy] at eM
    rw [hz, if_pos rfl] at eC
    exact ⟨_, _, _, A, eC, eM, ok, C1, M1⟩
theorem lw_O3_ok : lw_O3 Rel := by
  intro a1
  refine rw_eq (fun A σ τ ok C M => ⟨10000, 10000, ?_⟩)
  by_cases h0 : a1 = 0
  · subst h0; exact text0 ok C M
  · by_cases h1 : a1 = 1
    · subst h1; exact text1 ok C M
    · by_cases h2 : a1 = 2
      · subst h2; exact text2 ok C M
      · refine ⟨-1, σ, τ, A, ?_, ?_, ok, C, M⟩
        · show f_X11_text 10000 a1 σ = _
          unfold f_X11_text f_X11_reads
          rw [if_neg h0, if_neg h1, if_neg h2, cl_some]
          rfl
        · show f_X12_text 10000 a1 τ = _
          unfold f_X12_text f_X12_text_B22 f_X12_text_B69
          rw [if_neg h0, if_neg h1, if_neg h2]
