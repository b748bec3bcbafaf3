/-! UNITS, the reference, by depth -/
theorem unM {T : Nat × (Nat → Nat)} {n : Nat} (o : okT T) (hn : n < 5) : ∀ d w, w ≤ 6 → 6 < d + w → ImM T n w (fun τ => f_X12_unit d 10000 τ) (puU T d w) := by
  have h240 := o.1
  intro d
  induction d with
  | zero => intro w h1 h2; omega
  | succ d ih =>
    intro w h1 h2 a τ L ha hT e w4 w5 hL hl
    have hs0 := skp_le ha
    have hg0 := skp_ge (T := T) (a := a)
    obtain ⟨τ1, s1, s2, s3, s4⟩ := look_ok o (by omega) hT e
    have z4 := pLz_p s4
    have hL1 := mqM_fr hL z4
    have w41 : τ1.1 0 4 = -1 := by rw [s4 0 4 (by unfold pt; omega)]; exact w4
    have w51 : τ1.1 0 5 = nI w := by rw [s4 0 5 (by unfold pt; omega)]; exact w5
    show ∃ τ', f_X12_unit_b 10000 (f_X12_unit d 10000) τ = some (0, τ') ∧ _
    unfold f_X12_unit_b puU
    rw [s1, cl_some]
    have notis : ∀ c, c < 1000 → ¬ isT c T (skp T a) = true → ¬ chr T (skp T a) = nI c := fun c hc h h2 => h (by unfold isT; exact decide_eq_true ((chr_is o (by omega)).mp h2))
    by_cases c1 : isT 33 T (skp T a) = true
    · have hi := isT_lt c1
      rw [if_pos c1, if_pos (show chr T (skp T a) = 33 from (chr_is (c := 33) o (by decide)).mpr hi)]
      by_cases c6 : w < 6
      · rw [if_pos c6]
        obtain ⟨τ2, q1, q2, q3, q4, q5, q6⟩ := opens_ok c6 s3 s2 w41 w51
        rw [q1, cl_some, q5, if_pos rfl]
        obtain ⟨τ3, r1, r2, r3, r4⟩ := ih (w + 1) (by omega) (by omega) (skp T a + 1) τ2 L (by omega) q2 q4 q5 q6 (mqM_fr hL1 q3) (by omega)
        have r1 : f_X12_unit d 10000 τ2 = some (0, τ3) := r1
        have g := pgl_U (T := T) d (w + 1) (by omega) (skp T a + 1) (by omega)
        have g1 := g.1
        have F3 : Fr (pLm n) τ τ3 := (pLm_z (z4.tr q3)).tr r3
        rw [r1, cl_some]
        unfold puN
        rcases r4 with ⟨cc, d3, d4, d5, d6⟩ | ⟨cc, d4⟩
        · have g2 := g.2 cc
          have hlen2 : (L ++ (puU T d (w + 1) (skp T a + 1)).2.2).length = L.length + (puU T d (w + 1) (skp T a + 1)).2.2.length := List.length_append
          obtain ⟨τ4, p1, p2, p3, p4⟩ := put_M (c' := 9) (v := 0) hn r2 d6 (by omega)
          have pz := put_z p4
          rw [p1, cl_some, pf_eq, pz.2.2.1, d5, nJ_subL (by omega), if_pos cc]
          have FU : Fr pLz τ4 (sg_up τ4 0 5 (nI (w + 1 - 1))) := Fr.up ⟨rfl, Or.inr (Or.inr rfl)⟩
          refine ⟨_, rfl, tqM_z p2 FU, (F3.tr pz.2.2.2).tr (pLm_z FU), Or.inl ⟨rfl, by rw [up_nk (by decide), pz.1]; exact d3, by rw [up_nk (by decide), pz.2.1]; exact d4, up_at, ?_⟩⟩
          have p5 := mqM_fr p3 FU
          rw [List.append_assoc] at p5
          exact p5
        · obtain ⟨L2, m1, m2⟩ := d4.2
          obtain ⟨τ4, p1, p2, p3, p4⟩ := put_M (c' := 9) (v := 0) hn r2 m1 (by omega)
          have pz := put_z p4
          rw [p1, cl_some, pf_eq, if_neg (by rw [cc]; decide)]
          have FU : ∀ x, Fr pLz τ4 (sg_up τ4 0 5 x) := fun x => Fr.up ⟨rfl, Or.inr (Or.inr rfl)⟩
          exact ⟨_, rfl, tqM_z p2 (FU _), (F3.tr pz.2.2.2).tr (pLm_z (FU _)), Or.inr ⟨rfl, by rw [up_nk (by decide), pz.2.1]; exact d4.1, _, mqM_fr p3 (FU _), by rw [List.length_append, List.length_singleton]; omega⟩⟩
      · rw [if_neg c6]
        obtain ⟨τ2, q1, q2, q3, q4⟩ := opens_bad (by omega) s3 s2 w41 w51
        rw [q1, cl_some, q4, if_neg (by rw [nJ_ne_neg (by omega)]; exact id)]
        exact ⟨τ2, rfl, q2, pLm_z (z4.tr q3), Or.inr ⟨rfl, q4, L, mqM_fr hL1 q3, by omega⟩⟩
    · rw [if_neg c1, if_neg (show ¬ chr T (skp T a) = 33 from notis 33 (by decide) c1)]
      by_cases c2 : isT 40 T (skp T a) = true
      · have hi := isT_lt c2
        rw [if_pos c2, if_pos (show chr T (skp T a) = 40 from (chr_is (c := 40) o (by decide)).mpr hi)]
        by_cases c6 : w < 6
        · rw [if_pos c6]
          obtain ⟨τ2, q1, q2, q3, q4, q5, q6⟩ := opens_ok c6 s3 s2 w41 w51
          rw [q1, cl_some, q5, if_pos rfl]
          have gU := pgl_U (T := T) d (w + 1) (by omega)
          obtain ⟨τ3, r1, r2, r3, r4⟩ := cdM (rec := f_X12_unit d 10000) o hn (ih (w + 1) (by omega) (by omega)) gU (skp T a + 1) τ2 L (by omega) q2 q4 q5 q6 (mqM_fr hL1 q3) (by omega)
          have r1 : f_X12_condition 10000 (f_X12_unit d 10000) τ2 = some (0, τ3) := r1
          have g := pgl_X opO_ok (pgl_X opA_ok gU) (skp T a + 1) (by omega)
          have g1 := g.1
          have F3 : Fr (pLm n) τ τ3 := (pLm_z (z4.tr q3)).tr r3
          rw [r1, cl_some]
          unfold puB
          rcases r4 with ⟨cc, d3, d4, d5, d6⟩ | ⟨cc, d4⟩
          · obtain ⟨τ4, k1, k2, k3, k4⟩ := closes_ok (c := 41) o g.1 (by decide) r2 d3 d4 d5
            have k1 : f_X12_closes 10000 41 τ3 = some (0, τ4) := k1
            rw [k1, cl_some, if_pos cc, puE_nil, List.append_nil]
            have hL4 := mqM_fr d6 k3
            refine ⟨τ4, rfl, k2, F3.tr (pLm_z k3), ?_⟩
            rcases k4 with ⟨x1, x2, x3, x4⟩ | ⟨x1, x2⟩
            · exact Or.inl ⟨x1, x2, x3, x4, hL4⟩
            · have := (g.2 cc).2.1
              exact Or.inr ⟨x1, x2, _, hL4, by rw [List.length_append]; omega⟩
          · obtain ⟨τ4, k1, k2, k3, k4⟩ := closes_bad (c := 41) (by omega) r2 d4.1
            rw [k1, cl_some, if_neg (by rw [cc]; decide)]
            exact ⟨τ4, rfl, k2, F3.tr (pLm_z k3), Or.inr ⟨rfl, bdM_le (bdM_fr d4 k3 k4) (by omega)⟩⟩
        · rw [if_neg c6]
          obtain ⟨τ2, q1, q2, q3, q4⟩ := opens_bad (by omega) s3 s2 w41 w51
          rw [q1, cl_some, q4, if_neg (by rw [nJ_ne_neg (by omega)]; exact id)]
          exact ⟨τ2, rfl, q2, pLm_z (z4.tr q3), Or.inr ⟨rfl, q4, L, mqM_fr hL1 q3, by omega⟩⟩
      · rw [if_neg c2, if_neg (show ¬ chr T (skp T a) = 40 from notis 40 (by decide) c2)]
        obtain ⟨τ2, q1, q2, q3, q4⟩ := smM o hn 40 w h1 (by omega) (skp T a) τ1 L hs0 s3 s2 w41 w51 hL1 (by omega)
        have q1 : f_X12_sum 40 10000 τ1 = some (0, τ2) := q1
        have g := pgl_S (T := T) 40 w (by omega) (skp T a) hs0
        have g1 := g.1
        have F2 : Fr (pLm n) τ τ2 := (pLm_z z4).tr q3
        rw [q1, cl_some]
        unfold puB
        rcases q4 with ⟨cc, d3, d4, d5, d6⟩ | ⟨cc, d4⟩
        · have g2 := g.2 cc
          have hlen2 : (L ++ (puS T 40 w (skp T a)).2.2).length = L.length + (puS T 40 w (skp T a)).2.2.length := List.length_append
          obtain ⟨τ3, r1, r2, r3, r4⟩ := cmM o hn h1 (puS T 40 w (skp T a)).2.1 τ2 _ g.1 q2 d3 d4 d5 d6 (by omega)
          have r1 : f_X12_compare 10000 τ2 = some (0, τ3) := r1
          rw [d4, if_pos rfl, r1, cl_some, if_pos cc]
          refine ⟨τ3, rfl, r2, F2.tr r3, ?_⟩
          rcases r4 with ⟨x1, x2, x3, x4, x5⟩ | ⟨x1, x2⟩
          · refine Or.inl ⟨x1, x2, x3, x4, ?_⟩
            rw [List.append_assoc] at x5
            exact x5
          · exact Or.inr ⟨x1, bdM_le x2 (by omega)⟩
        · rw [d4.1, if_neg (by rw [nJ_ne_neg (by omega)]; exact id), if_neg (by rw [cc]; decide)]
          exact ⟨τ2, rfl, q2, F2, Or.inr ⟨rfl, bdM_le d4 (by omega)⟩⟩
