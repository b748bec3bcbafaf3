/-! SUMS, the reference -/
theorem tmM_lp {T : Nat × (Nat → Nat)} {n w : Nat} {rec : sgS → Option (Int32 × sgS)} {sub : Nat → PR} (o : okT T) (hn : n < 5) (hs : ImM T n w (fun τ => f_X12_atom 10000 rec τ) sub) (hg : pgl T 1 sub) : ∀ f a M τ L, T.1 - a < f → f < M → a ≤ T.1 → tqM T τ → τ.1 0 3 = nI (skp T a) → τ.1 0 4 = -1 → τ.1 0 5 = nI w → mqM n L τ → L.length ≤ a → ∃ τ', sg_lp (fun x : sgS × Int32 => f_X12_term_L21 10000 rec x.2 x.1) M ((τ, chr T (skp T a))) = some (.inr τ') ∧ tqM T τ' ∧ Fr (pLm n) τ τ' ∧ (((puL T opM sub f a).1 = true ∧ τ'.1 0 3 = nI (puL T opM sub f a).2.1 ∧ τ'.1 0 4 = -1 ∧ τ'.1 0 5 = nI w ∧ mqM n (L ++ (puL T opM sub f a).2.2) τ') ∨ ((puL T opM sub f a).1 = false ∧ bdM n (L.length + (T.1 - a)) (puL T opM sub f a).2.1 τ')) := by
  have h240 := o.1
  intro f
  induction f with
  | zero => intro a M τ L h; omega
  | succ f ih =>
    intro a M τ L h1 hM ha hT e w4 w5 hL hl
    obtain ⟨M, rfl⟩ : ∃ m, M = m + 1 := ⟨M - 1, by omega⟩
    have hs0 := skp_le ha
    have hg0 := skp_ge (T := T) (a := a)
    unfold puL
    by_cases c : opT opM T (skp T a) = 0
    · rw [if_pos c]
      have n1 : ¬ chr T (skp T a) = 42 := fun h => by
        have h := (chr_is (c := 42) o (by decide)).mp h
        unfold opT at c
        rw [if_pos h.1, h.2] at c
        exact absurd c (by decide)
      have n2 : ¬ chr T (skp T a) = 47 := fun h => by
        have h := (chr_is (c := 47) o (by decide)).mp h
        unfold opT at c
        rw [if_pos h.1, h.2] at c
        exact absurd c (by decide)
      refine ⟨τ, ?_, hT, Fr.rf, Or.inl ⟨rfl, e, w4, w5, by show mqM n (L ++ []) τ; rw [List.append_nil]; exact hL⟩⟩
      apply lp_out
      show f_X12_term_L21 10000 rec (chr T (skp T a)) τ = _
      unfold f_X12_term_L21
      rw [if_neg n1, if_neg n2]
    · rw [if_neg c]
      have hlt := opT_lt c
      have hop : T.2 (skp T a) = 42 ∨ T.2 (skp T a) = 47 := by
        rw [hlt.2] at c
        unfold opM at c
        by_cases h1 : T.2 (skp T a) = 42
        · exact Or.inl h1
        · rw [if_neg h1] at c
          by_cases h2 : T.2 (skp T a) = 47
          · exact Or.inr h2
          · rw [if_neg h2] at c; exact absurd rfl c
      have U := Fr_pt (σ := τ) (i := 0) (k := 3) (v := nI (skp T a + 1))
      have zU := pLz_p U
      obtain ⟨τ2, q1, q2, q3, q4⟩ := hs (skp T a + 1) (sg_up τ 0 3 (nI (skp T a + 1))) L (by omega) (tqM_z hT zU) up_at (by rw [up_nk (by decide)]; exact w4) (by rw [up_nk (by decide)]; exact w5) (mqM_fr hL zU) (by omega)
      have q1 : f_X12_atom 10000 rec (sg_up τ 0 3 (nI (skp T a + 1))) = some (0, τ2) := q1
      have g := hg (skp T a + 1) (by omega)
      have F2 : Fr (pLm n) τ τ2 := (pLm_z zU).tr q3
      have top : f_X12_term_L21 10000 rec (chr T (skp T a)) τ = f_X12_term_L21_B59 10000 rec (nI (opT opM T (skp T a))) τ2 := by
        have b33 : ∀ x, f_X12_term_L21_B33 10000 rec x τ = (if x = 42 then f_X12_term_L21_B59 10000 rec 4 τ2 else f_X12_term_L21_B59 10000 rec 5 τ2) := by
          intro x
          unfold f_X12_term_L21_B33
          rw [pf_eq, e, nJ_addL, q1, cl_some]
        unfold f_X12_term_L21
        rw [chr_y hlt.1, hlt.2, b33]
        rcases hop with h | h
        · rw [h, if_pos (show nI 42 = 42 from rfl), if_pos (show nI 42 = 42 from rfl)]
          rfl
        · rw [h, if_neg (show ¬ nI 47 = 42 by decide), if_pos (show nI 47 = 47 from rfl), if_neg (show ¬ nI 47 = 42 by decide)]
          rfl
      unfold f_X12_term_L21_B59 at top
      rcases q4 with ⟨cc, d3, d4, d5, d6⟩ | ⟨cc, d4⟩
      · have g2 := g.2 cc
        have g1 := g.1
        rw [if_pos cc]
        have hlen : (L ++ (sub (skp T a + 1)).2.2).length + 1 ≤ (sub (skp T a + 1)).2.1 := by rw [List.length_append]; omega
        have hlen2 : (L ++ (sub (skp T a + 1)).2.2).length = L.length + (sub (skp T a + 1)).2.2.length := List.length_append
        obtain ⟨τ3, p1, p2, p3, p4⟩ := put_M (c' := nI (opT opM T (skp T a))) (v := 0) hn q2 d6 (by omega)
        have pz := put_z p4
        obtain ⟨τ4, s1, s2, s3, s4⟩ := look_ok o (by omega) p2 (show τ3.1 0 3 = nI (sub (skp T a + 1)).2.1 by rw [pz.1]; exact d3)
        have z4 := pLz_p s4
        rw [p1, cl_some, pz.2.1, d4, if_pos rfl, s1, cl_some] at top
        obtain ⟨τ', r1, r2, r3, r4⟩ := ih (sub (skp T a + 1)).2.1 M τ4 _ (by omega) (by omega) g.1 s3 s2 (by rw [s4 0 4 (by unfold pt; omega), pz.2.1]; exact d4) (by rw [s4 0 5 (by unfold pt; omega), pz.2.2.1]; exact d5) (mqM_fr p3 z4) (by rw [List.length_append, List.length_singleton]; omega)
        refine ⟨τ', ?_, r2, ((F2.tr pz.2.2.2).tr (pLm_z z4)).tr r3, ?_⟩
        · rw [lp_step (x' := (τ4, chr T (skp T (sub (skp T a + 1)).2.1))) top, r1]
        · rcases r4 with ⟨x1, x2, x3, x4, x5⟩ | ⟨x1, x2⟩
          · refine Or.inl ⟨x1, x2, x3, x4, ?_⟩
            show mqM n (L ++ ((sub (skp T a + 1)).2.2 ++ ((nI (opT opM T (skp T a)), 0) :: (puL T opM sub f (sub (skp T a + 1)).2.1).2.2))) τ'
            rw [List.append_assoc, List.append_assoc] at x5
            exact x5
          · refine Or.inr ⟨x1, bdM_le x2 ?_⟩
            rw [List.length_append, List.length_singleton]
            omega
      · have g1 := g.1
        obtain ⟨L2, m1, m2⟩ := d4.2
        rw [if_neg (show ¬ (sub (skp T a + 1)).1 = true by rw [cc]; decide)]
        obtain ⟨τ3, p1, p2, p3, p4⟩ := put_M (c' := nI (opT opM T (skp T a))) (v := 0) hn q2 m1 (by omega)
        have pz := put_z p4
        have w3 : τ3.1 0 4 = nI (sub (skp T a + 1)).2.1 := by rw [pz.2.1]; exact d4.1
        rw [p1, cl_some, w3, if_neg (by rw [nJ_ne_neg (by omega)]; exact id)] at top
        refine ⟨τ3, ?_, p2, F2.tr pz.2.2.2, Or.inr ⟨rfl, w3, _, p3, by rw [List.length_append, List.length_singleton]; omega⟩⟩
        obtain ⟨M, rfl⟩ : ∃ m, M = m + 1 := ⟨M - 1, by omega⟩
        rw [lp_step (x' := (τ3, -1)) top]
        apply lp_out
        show f_X12_term_L21 10000 rec (-1) τ3 = _
        unfold f_X12_term_L21
        rw [if_neg (by decide), if_neg (by decide)]
theorem tmM {T : Nat × (Nat → Nat)} {n w : Nat} {rec : sgS → Option (Int32 × sgS)} {sub : Nat → PR} (o : okT T) (hn : n < 5) (hs : ImM T n w (fun τ => f_X12_atom 10000 rec τ) sub) (hg : pgl T 1 sub) : ImM T n w (fun τ => f_X12_term 10000 rec τ) (puX T opM sub) := by
  have h240 := o.1
  intro a τ L ha hT e w4 w5 hL hl
  obtain ⟨τ1, q1, q2, q3, q4⟩ := hs a τ L ha hT e w4 w5 hL hl
  have q1 : f_X12_atom 10000 rec τ = some (0, τ1) := q1
  have g := hg a ha
  have g1 := g.1
  show ∃ τ', f_X12_term 10000 rec τ = some (0, τ') ∧ _
  unfold f_X12_term puX puB
  rw [q1, cl_some]
  rcases q4 with ⟨cc, d3, d4, d5, d6⟩ | ⟨cc, d4⟩
  · have g2 := g.2 cc
    have hlen2 : (L ++ (sub a).2.2).length = L.length + (sub a).2.2.length := List.length_append
    obtain ⟨τ2, s1, s2, s3, s4⟩ := look_ok o (by omega) q2 d3
    have z4 := pLz_p s4
    obtain ⟨τ', r1, r2, r3, r4⟩ := tmM_lp o hn hs hg (T.1 + 1) (sub a).2.1 10000 τ2 _ (by omega) (by omega) g.1 s3 s2 (by rw [s4 0 4 (by unfold pt; omega)]; exact d4) (by rw [s4 0 5 (by unfold pt; omega)]; exact d5) (mqM_fr d6 z4) (by omega)
    rw [d4, if_pos rfl, s1, cl_some, if_pos cc]
    unfold f_X12_term_B20
    rw [r1, lb_inr]
    refine ⟨τ', rfl, r2, (q3.tr (pLm_z z4)).tr r3, ?_⟩
    rcases r4 with ⟨x1, x2, x3, x4, x5⟩ | ⟨x1, x2⟩
    · refine Or.inl ⟨x1, x2, x3, x4, ?_⟩
      rw [List.append_assoc] at x5
      exact x5
    · exact Or.inr ⟨x1, bdM_le x2 (by omega)⟩
  · rw [d4.1, if_neg (by rw [nJ_ne_neg (by omega)]; exact id), if_neg (by rw [cc]; decide)]
    unfold f_X12_term_B20
    rw [lp_out (y := τ1), lb_inr]
    · exact ⟨τ1, rfl, q2, q3, Or.inr ⟨rfl, d4⟩⟩
    · show f_X12_term_L21 10000 rec (-1) τ1 = _
      unfold f_X12_term_L21
      rw [if_neg (by decide), if_neg (by decide)]
theorem suM_lp {T : Nat × (Nat → Nat)} {n w : Nat} {rec : sgS → Option (Int32 × sgS)} {sub : Nat → PR} (o : okT T) (hn : n < 5) (hs : ImM T n w (fun τ => f_X12_term 10000 rec τ) sub) (hg : pgl T 1 sub) : ∀ f a M τ L, T.1 - a < f → f < M → a ≤ T.1 → tqM T τ → τ.1 0 3 = nI (skp T a) → τ.1 0 4 = -1 → τ.1 0 5 = nI w → mqM n L τ → L.length ≤ a → ∃ τ', sg_lp (fun x : sgS × Int32 => f_X12_sum_b_L21 10000 rec x.2 x.1) M ((τ, chr T (skp T a))) = some (.inr τ') ∧ tqM T τ' ∧ Fr (pLm n) τ τ' ∧ (((puL T opS sub f a).1 = true ∧ τ'.1 0 3 = nI (puL T opS sub f a).2.1 ∧ τ'.1 0 4 = -1 ∧ τ'.1 0 5 = nI w ∧ mqM n (L ++ (puL T opS sub f a).2.2) τ') ∨ ((puL T opS sub f a).1 = false ∧ bdM n (L.length + (T.1 - a)) (puL T opS sub f a).2.1 τ')) := by
  have h240 := o.1
  intro f
  induction f with
  | zero => intro a M τ L h; omega
  | succ f ih =>
    intro a M τ L h1 hM ha hT e w4 w5 hL hl
    obtain ⟨M, rfl⟩ : ∃ m, M = m + 1 := ⟨M - 1, by omega⟩
    have hs0 := skp_le ha
    have hg0 := skp_ge (T := T) (a := a)
    unfold puL
    by_cases c : opT opS T (skp T a) = 0
    · rw [if_pos c]
      have n1 : ¬ chr T (skp T a) = 43 := fun h => by
        have h := (chr_is (c := 43) o (by decide)).mp h
        unfold opT at c
        rw [if_pos h.1, h.2] at c
        exact absurd c (by decide)
      have n2 : ¬ chr T (skp T a) = 45 := fun h => by
        have h := (chr_is (c := 45) o (by decide)).mp h
        unfold opT at c
        rw [if_pos h.1, h.2] at c
        exact absurd c (by decide)
      refine ⟨τ, ?_, hT, Fr.rf, Or.inl ⟨rfl, e, w4, w5, by show mqM n (L ++ []) τ; rw [List.append_nil]; exact hL⟩⟩
      apply lp_out
      show f_X12_sum_b_L21 10000 rec (chr T (skp T a)) τ = _
      unfold f_X12_sum_b_L21
      rw [if_neg n1, if_neg n2]
    · rw [if_neg c]
      have hlt := opT_lt c
      have hop : T.2 (skp T a) = 43 ∨ T.2 (skp T a) = 45 := by
        rw [hlt.2] at c
        unfold opS at c
        by_cases h1 : T.2 (skp T a) = 43
        · exact Or.inl h1
        · rw [if_neg h1] at c
          by_cases h2 : T.2 (skp T a) = 45
          · exact Or.inr h2
          · rw [if_neg h2] at c; exact absurd rfl c
      have U := Fr_pt (σ := τ) (i := 0) (k := 3) (v := nI (skp T a + 1))
      have zU := pLz_p U
      obtain ⟨τ2, q1, q2, q3, q4⟩ := hs (skp T a + 1) (sg_up τ 0 3 (nI (skp T a + 1))) L (by omega) (tqM_z hT zU) up_at (by rw [up_nk (by decide)]; exact w4) (by rw [up_nk (by decide)]; exact w5) (mqM_fr hL zU) (by omega)
      have q1 : f_X12_term 10000 rec (sg_up τ 0 3 (nI (skp T a + 1))) = some (0, τ2) := q1
      have g := hg (skp T a + 1) (by omega)
      have F2 : Fr (pLm n) τ τ2 := (pLm_z zU).tr q3
      have top : f_X12_sum_b_L21 10000 rec (chr T (skp T a)) τ = f_X12_sum_b_L21_B59 10000 rec (nI (opT opS T (skp T a))) τ2 := by
        have b33 : ∀ x, f_X12_sum_b_L21_B33 10000 rec x τ = (if x = 43 then f_X12_sum_b_L21_B59 10000 rec 2 τ2 else f_X12_sum_b_L21_B59 10000 rec 3 τ2) := by
          intro x
          unfold f_X12_sum_b_L21_B33
          rw [pf_eq, e, nJ_addL, q1, cl_some]
        unfold f_X12_sum_b_L21
        rw [chr_y hlt.1, hlt.2, b33]
        rcases hop with h | h
        · rw [h, if_pos (show nI 43 = 43 from rfl), if_pos (show nI 43 = 43 from rfl)]
          rfl
        · rw [h, if_neg (show ¬ nI 45 = 43 by decide), if_pos (show nI 45 = 45 from rfl), if_neg (show ¬ nI 45 = 43 by decide)]
          rfl
      unfold f_X12_sum_b_L21_B59 at top
      rcases q4 with ⟨cc, d3, d4, d5, d6⟩ | ⟨cc, d4⟩
      · have g2 := g.2 cc
        have g1 := g.1
        rw [if_pos cc]
        have hlen : (L ++ (sub (skp T a + 1)).2.2).length + 1 ≤ (sub (skp T a + 1)).2.1 := by rw [List.length_append]; omega
        have hlen2 : (L ++ (sub (skp T a + 1)).2.2).length = L.length + (sub (skp T a + 1)).2.2.length := List.length_append
        obtain ⟨τ3, p1, p2, p3, p4⟩ := put_M (c' := nI (opT opS T (skp T a))) (v := 0) hn q2 d6 (by omega)
        have pz := put_z p4
        obtain ⟨τ4, s1, s2, s3, s4⟩ := look_ok o (by omega) p2 (show τ3.1 0 3 = nI (sub (skp T a + 1)).2.1 by rw [pz.1]; exact d3)
        have z4 := pLz_p s4
        rw [p1, cl_some, pz.2.1, d4, if_pos rfl, s1, cl_some] at top
        obtain ⟨τ', r1, r2, r3, r4⟩ := ih (sub (skp T a + 1)).2.1 M τ4 _ (by omega) (by omega) g.1 s3 s2 (by rw [s4 0 4 (by unfold pt; omega), pz.2.1]; exact d4) (by rw [s4 0 5 (by unfold pt; omega), pz.2.2.1]; exact d5) (mqM_fr p3 z4) (by rw [List.length_append, List.length_singleton]; omega)
        refine ⟨τ', ?_, r2, ((F2.tr pz.2.2.2).tr (pLm_z z4)).tr r3, ?_⟩
        · rw [lp_step (x' := (τ4, chr T (skp T (sub (skp T a + 1)).2.1))) top, r1]
        · rcases r4 with ⟨x1, x2, x3, x4, x5⟩ | ⟨x1, x2⟩
          · refine Or.inl ⟨x1, x2, x3, x4, ?_⟩
            show mqM n (L ++ ((sub (skp T a + 1)).2.2 ++ ((nI (opT opS T (skp T a)), 0) :: (puL T opS sub f (sub (skp T a + 1)).2.1).2.2))) τ'
            rw [List.append_assoc, List.append_assoc] at x5
            exact x5
          · refine Or.inr ⟨x1, bdM_le x2 ?_⟩
            rw [List.length_append, List.length_singleton]
            omega
      · have g1 := g.1
        obtain ⟨L2, m1, m2⟩ := d4.2
        rw [if_neg (show ¬ (sub (skp T a + 1)).1 = true by rw [cc]; decide)]
        obtain ⟨τ3, p1, p2, p3, p4⟩ := put_M (c' := nI (opT opS T (skp T a))) (v := 0) hn q2 m1 (by omega)
        have pz := put_z p4
        have w3 : τ3.1 0 4 = nI (sub (skp T a + 1)).2.1 := by rw [pz.2.1]; exact d4.1
        rw [p1, cl_some, w3, if_neg (by rw [nJ_ne_neg (by omega)]; exact id)] at top
        refine ⟨τ3, ?_, p2, F2.tr pz.2.2.2, Or.inr ⟨rfl, w3, _, p3, by rw [List.length_append, List.length_singleton]; omega⟩⟩
        obtain ⟨M, rfl⟩ : ∃ m, M = m + 1 := ⟨M - 1, by omega⟩
        rw [lp_step (x' := (τ3, -1)) top]
        apply lp_out
        show f_X12_sum_b_L21 10000 rec (-1) τ3 = _
        unfold f_X12_sum_b_L21
        rw [if_neg (by decide), if_neg (by decide)]
theorem suM {T : Nat × (Nat → Nat)} {n w : Nat} {rec : sgS → Option (Int32 × sgS)} {sub : Nat → PR} (o : okT T) (hn : n < 5) (hs : ImM T n w (fun τ => f_X12_term 10000 rec τ) sub) (hg : pgl T 1 sub) : ImM T n w (fun τ => f_X12_sum_b 10000 rec τ) (puX T opS sub) := by
  have h240 := o.1
  intro a τ L ha hT e w4 w5 hL hl
  obtain ⟨τ1, q1, q2, q3, q4⟩ := hs a τ L ha hT e w4 w5 hL hl
  have q1 : f_X12_term 10000 rec τ = some (0, τ1) := q1
  have g := hg a ha
  have g1 := g.1
  show ∃ τ', f_X12_sum_b 10000 rec τ = some (0, τ') ∧ _
  unfold f_X12_sum_b puX puB
  rw [q1, cl_some]
  rcases q4 with ⟨cc, d3, d4, d5, d6⟩ | ⟨cc, d4⟩
  · have g2 := g.2 cc
    have hlen2 : (L ++ (sub a).2.2).length = L.length + (sub a).2.2.length := List.length_append
    obtain ⟨τ2, s1, s2, s3, s4⟩ := look_ok o (by omega) q2 d3
    have z4 := pLz_p s4
    obtain ⟨τ', r1, r2, r3, r4⟩ := suM_lp o hn hs hg (T.1 + 1) (sub a).2.1 10000 τ2 _ (by omega) (by omega) g.1 s3 s2 (by rw [s4 0 4 (by unfold pt; omega)]; exact d4) (by rw [s4 0 5 (by unfold pt; omega)]; exact d5) (mqM_fr d6 z4) (by omega)
    rw [d4, if_pos rfl, s1, cl_some, if_pos cc]
    unfold f_X12_sum_b_B20
    rw [r1, lb_inr]
    refine ⟨τ', rfl, r2, (q3.tr (pLm_z z4)).tr r3, ?_⟩
    rcases r4 with ⟨x1, x2, x3, x4, x5⟩ | ⟨x1, x2⟩
    · refine Or.inl ⟨x1, x2, x3, x4, ?_⟩
      rw [List.append_assoc] at x5
      exact x5
    · exact Or.inr ⟨x1, bdM_le x2 (by omega)⟩
  · rw [d4.1, if_neg (by rw [nJ_ne_neg (by omega)]; exact id), if_neg (by rw [cc]; decide)]
    unfold f_X12_sum_b_B20
    rw [lp_out (y := τ1), lb_inr]
    · exact ⟨τ1, rfl, q2, q3, Or.inr ⟨rfl, d4⟩⟩
    · show f_X12_sum_b_L21 10000 rec (-1) τ1 = _
      unfold f_X12_sum_b_L21
      rw [if_neg (by decide), if_neg (by decide)]
theorem smM {T : Nat × (Nat → Nat)} {n : Nat} (o : okT T) (hn : n < 5) : ∀ d w, w ≤ 6 → 6 < d + w → ImM T n w (fun τ => f_X12_sum d 10000 τ) (puS T d w) := by
  intro d
  induction d with
  | zero => intro w h1 h2; omega
  | succ d ih =>
    intro w h1 h2
    have gA : pgl T 1 (puA T (puS T d (w + 1)) w) := pgl_A (fun hw => pgl_S d (w + 1) (by omega))
    have hA := atM (rec := f_X12_sum d 10000) (r := puS T d (w + 1)) o hn h1 (fun hw => ih (w + 1) (by omega) (by omega)) (fun hw => pgl_S d (w + 1) (by omega))
    exact suM o hn (tmM o hn hA gA) (pgl_X opM_ok gA)
