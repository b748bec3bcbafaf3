/-! TESTS, the reference -/
theorem ImM_eq {T : Nat × (Nat → Nat)} {n w : Nat} {f : sgS → Option (Int32 × sgS)} {p q : Nat → PR} (h : ∀ a, puEq (p a) (q a)) (hf : ImM T n w f p) : ImM T n w f q := by
  intro a τ L ha hT e w4 w5 hL hl
  obtain ⟨τ1, q1, q2, q3, q4⟩ := hf a τ L ha hT e w4 w5 hL hl
  obtain ⟨h1, h2, h3⟩ := h a
  refine ⟨τ1, q1, q2, q3, ?_⟩
  rcases q4 with ⟨c, d3, d4, d5, d6⟩ | ⟨c, d⟩
  · exact Or.inl ⟨by rw [← h1]; exact c, by rw [← h2]; exact d3, d4, d5, by rw [← h3 c]; exact d6⟩
  · exact Or.inr ⟨by rw [← h1]; exact c, by rw [← h2]; exact d⟩
/-- it does nothing where something failed before -/
def skM (g : sgS → Option (Int32 × sgS)) : Prop := ∀ τ x, x < 1000 → τ.1 0 4 = nI x → g τ = some (0, τ)
theorem ImM_B {T : Nat × (Nat → Nat)} {n w e : Nat} {f g : sgS → Option (Int32 × sgS)} {p q : Nat → PR} (o : okT T) (hf : ImM T n w f p) (hg : ImM T n w g q) (gp : pgl T e p) (sk : skM g) : ImM T n w (fun τ => sg_cl (f τ) fun _ s => g s) (puB p q) := by
  have h240 := o.1
  intro a τ L ha hT e w4 w5 hL hl
  obtain ⟨τ1, q1, q2, q3, q4⟩ := hf a τ L ha hT e w4 w5 hL hl
  have h := gp a ha
  show ∃ τ', (sg_cl (f τ) fun _ s => g s) = some (0, τ') ∧ _
  rw [q1, cl_some]
  unfold puB
  rcases q4 with ⟨c, d3, d4, d5, d6⟩ | ⟨c, d⟩
  · rw [if_pos c]
    have h2 := h.2 c
    have hlen2 : (L ++ (p a).2.2).length = L.length + (p a).2.2.length := List.length_append
    obtain ⟨τ2, r1, r2, r3, r4⟩ := hg (p a).2.1 τ1 _ h.1 q2 d3 d4 d5 d6 (by omega)
    refine ⟨τ2, r1, r2, q3.tr r3, ?_⟩
    rcases r4 with ⟨x1, x2, x3, x4, x5⟩ | ⟨x1, x2⟩
    · refine Or.inl ⟨x1, x2, x3, x4, ?_⟩
      rw [List.append_assoc] at x5
      exact x5
    · exact Or.inr ⟨x1, bdM_le x2 (by omega)⟩
  · have h1 := h.1
    rw [if_neg (by rw [c]; decide), sk τ1 _ (by omega) d.1]
    exact ⟨τ1, rfl, q2, q3, Or.inr ⟨rfl, d⟩⟩
theorem ImM_0 {T : Nat × (Nat → Nat)} {n w : Nat} {f : sgS → Option (Int32 × sgS)} {p : Nat → PR} (hf : ImM T n w f p) : ImM T n w (fun τ => sg_cl (f τ) fun _ s => some (0, s)) p := by
  intro a τ L ha hT e w4 w5 hL hl
  obtain ⟨τ1, q1, q2, q3, q4⟩ := hf a τ L ha hT e w4 w5 hL hl
  refine ⟨τ1, ?_, q2, q3, q4⟩
  show (sg_cl (f τ) fun _ s => some (0, s)) = _
  rw [q1, cl_some]
theorem sk_A {rec : sgS → Option (Int32 × sgS)} : skM (fun τ => f_X12_goOnAnd 10000 rec τ) := by
  intro τ x hx h
  show f_X12_goOnAnd 10000 rec τ = _
  unfold f_X12_goOnAnd
  rw [lp_out (y := τ), lb_inr]
  show f_X12_goOnAnd_L0 10000 rec τ = _
  unfold f_X12_goOnAnd_L0
  rw [h, if_neg (by rw [nJ_ne_neg (by omega)]; exact id)]
theorem sk_O {rec : sgS → Option (Int32 × sgS)} : skM (fun τ => f_X12_goOnOr 10000 rec τ) := by
  intro τ x hx h
  show f_X12_goOnOr 10000 rec τ = _
  unfold f_X12_goOnOr
  rw [lp_out (y := τ), lb_inr]
  show f_X12_goOnOr_L0 10000 rec τ = _
  unfold f_X12_goOnOr_L0
  rw [h, if_neg (by rw [nJ_ne_neg (by omega)]; exact id)]
theorem agM_lp {T : Nat × (Nat → Nat)} {n w : Nat} {rec : sgS → Option (Int32 × sgS)} {sub : Nat → PR} (o : okT T) (hn : n < 5) (hs : ImM T n w (fun τ => rec τ) sub) (hg : pgl T 1 sub) : ∀ f a M τ L, T.1 - a < f → f < M → a ≤ T.1 → tqM T τ → τ.1 0 3 = nI a → τ.1 0 4 = -1 → τ.1 0 5 = nI w → mqM n L τ → L.length ≤ a → ∃ τ', sg_lp (fun x : sgS => f_X12_goOnAnd_L0 10000 rec x) M τ = some (.inr τ') ∧ tqM T τ' ∧ Fr (pLm n) τ τ' ∧ (((puL T opA sub f a).1 = true ∧ τ'.1 0 3 = nI (puL T opA sub f a).2.1 ∧ τ'.1 0 4 = -1 ∧ τ'.1 0 5 = nI w ∧ mqM n (L ++ (puL T opA sub f a).2.2) τ') ∨ ((puL T opA sub f a).1 = false ∧ bdM n (L.length + (T.1 - a)) (puL T opA sub f a).2.1 τ')) := by
  have h240 := o.1
  intro f
  induction f with
  | zero => intro a M τ L h; omega
  | succ f ih =>
    intro a M τ L h1 hM ha hT e w4 w5 hL hl
    obtain ⟨M, rfl⟩ : ∃ m, M = m + 1 := ⟨M - 1, by omega⟩
    have hs0 := skp_le ha
    have hg0 := skp_ge (T := T) (a := a)
    obtain ⟨τ1, s1, s2, s3, s4⟩ := look_ok o (by omega) hT e
    have z4 := pLz_p s4
    have hL1 := mqM_fr hL z4
    have w41 : τ1.1 0 4 = -1 := by rw [s4 0 4 (by unfold pt; omega)]; exact w4
    have w51 : τ1.1 0 5 = nI w := by rw [s4 0 5 (by unfold pt; omega)]; exact w5
    have iff := op1_is (op := opA) (k := 38) (n := 10) (fun c => rfl) (by decide) (T := T) (s := skp T a)
    unfold puL
    by_cases c : opT opA T (skp T a) = 0
    · rw [if_pos c]
      refine ⟨τ1, ?_, s3, pLm_z z4, Or.inl ⟨rfl, s2, w41, w51, by show mqM n (L ++ []) τ1; rw [List.append_nil]; exact hL1⟩⟩
      apply lp_out
      show f_X12_goOnAnd_L0 10000 rec τ = _
      unfold f_X12_goOnAnd_L0
      rw [w4, if_pos rfl, s1, cl_some, if_neg (show ¬ chr T (skp T a) = 38 from fun h => iff.mpr ((chr_is (c := 38) o (by decide)).mp h) c)]
    · rw [if_neg c]
      have hlt := iff.mp c
      have hcode : (10 : Int32) = nI (opT opA T (skp T a)) := by rw [(opT_lt c).2, hlt.2]; rfl
      have U := Fr_pt (σ := τ1) (i := 0) (k := 3) (v := nI (skp T a + 1))
      have zU := pLz_p U
      obtain ⟨τ2, q1, q2, q3, q4⟩ := hs (skp T a + 1) (sg_up τ1 0 3 (nI (skp T a + 1))) L (by omega) (tqM_z s3 zU) up_at (by rw [up_nk (by decide)]; exact w41) (by rw [up_nk (by decide)]; exact w51) (mqM_fr hL1 zU) (by omega)
      have q1 : rec (sg_up τ1 0 3 (nI (skp T a + 1))) = some (0, τ2) := q1
      have g := hg (skp T a + 1) (by omega)
      have g1 := g.1
      have F2 : Fr (pLm n) τ τ2 := (pLm_z (z4.tr zU)).tr q3
      have top : f_X12_goOnAnd_L0 10000 rec τ = (sg_cl (f_X12_put 10000 (nI (opT opA T (skp T a))) 0 τ2) fun v6 s7 => some (.inr (.inl s7))) := by
        unfold f_X12_goOnAnd_L0
        rw [w4, if_pos rfl, s1, cl_some, if_pos (show chr T (skp T a) = 38 from (chr_is (c := 38) o (by decide)).mpr hlt), pf_eq, s2, nJ_addL, q1, cl_some, hcode]
      rcases q4 with ⟨cc, d3, d4, d5, d6⟩ | ⟨cc, d4⟩
      · have g2 := g.2 cc
        rw [if_pos cc]
        have hlen2 : (L ++ (sub (skp T a + 1)).2.2).length = L.length + (sub (skp T a + 1)).2.2.length := List.length_append
        obtain ⟨τ3, p1, p2, p3, p4⟩ := put_M (c' := nI (opT opA T (skp T a))) (v := 0) hn q2 d6 (by omega)
        have pz := put_z p4
        rw [p1, cl_some] at top
        obtain ⟨τ', r1, r2, r3, r4⟩ := ih (sub (skp T a + 1)).2.1 M τ3 _ (by omega) (by omega) g.1 p2 (by rw [pz.1]; exact d3) (by rw [pz.2.1]; exact d4) (by rw [pz.2.2.1]; exact d5) p3 (by rw [List.length_append, List.length_singleton]; omega)
        refine ⟨τ', ?_, r2, (F2.tr pz.2.2.2).tr r3, ?_⟩
        · rw [lp_step (x' := τ3) top, r1]
        · rcases r4 with ⟨x1, x2, x3, x4, x5⟩ | ⟨x1, x2⟩
          · refine Or.inl ⟨x1, x2, x3, x4, ?_⟩
            show mqM n (L ++ ((sub (skp T a + 1)).2.2 ++ ((nI (opT opA T (skp T a)), 0) :: (puL T opA sub f (sub (skp T a + 1)).2.1).2.2))) τ'
            rw [List.append_assoc, List.append_assoc] at x5
            exact x5
          · refine Or.inr ⟨x1, bdM_le x2 ?_⟩
            rw [List.length_append, List.length_singleton]
            omega
      · obtain ⟨L2, m1, m2⟩ := d4.2
        rw [if_neg (show ¬ (sub (skp T a + 1)).1 = true by rw [cc]; decide)]
        obtain ⟨τ3, p1, p2, p3, p4⟩ := put_M (c' := nI (opT opA T (skp T a))) (v := 0) hn q2 m1 (by omega)
        have pz := put_z p4
        have w3 : τ3.1 0 4 = nI (sub (skp T a + 1)).2.1 := by rw [pz.2.1]; exact d4.1
        rw [p1, cl_some] at top
        refine ⟨τ3, ?_, p2, F2.tr pz.2.2.2, Or.inr ⟨rfl, w3, _, p3, by rw [List.length_append, List.length_singleton]; omega⟩⟩
        obtain ⟨M, rfl⟩ : ∃ m, M = m + 1 := ⟨M - 1, by omega⟩
        rw [lp_step (x' := τ3) top]
        apply lp_out
        show f_X12_goOnAnd_L0 10000 rec τ3 = _
        unfold f_X12_goOnAnd_L0
        rw [w3, if_neg (by rw [nJ_ne_neg (by omega)]; exact id)]
theorem agM {T : Nat × (Nat → Nat)} {n w : Nat} {rec : sgS → Option (Int32 × sgS)} {sub : Nat → PR} (o : okT T) (hn : n < 5) (hs : ImM T n w (fun τ => rec τ) sub) (hg : pgl T 1 sub) : ImM T n w (fun τ => f_X12_goOnAnd 10000 rec τ) (puR T opA sub) := by
  have h240 := o.1
  intro a τ L ha hT e w4 w5 hL hl
  obtain ⟨τ', r1, r2, r3, r4⟩ := agM_lp o hn hs hg (T.1 + 1) a 10000 τ L (by omega) (by omega) ha hT e w4 w5 hL hl
  refine ⟨τ', ?_, r2, r3, r4⟩
  show f_X12_goOnAnd 10000 rec τ = _
  unfold f_X12_goOnAnd
  rw [r1, lb_inr]
theorem ogM_lp {T : Nat × (Nat → Nat)} {n w : Nat} {rec : sgS → Option (Int32 × sgS)} {sub : Nat → PR} (o : okT T) (hn : n < 5) (hs : ImM T n w (fun τ => rec τ) sub) (hg : pgl T 1 sub) : ∀ f a M τ L, T.1 - a < f → f < M → a ≤ T.1 → tqM T τ → τ.1 0 3 = nI a → τ.1 0 4 = -1 → τ.1 0 5 = nI w → mqM n L τ → L.length ≤ a → ∃ τ', sg_lp (fun x : sgS => f_X12_goOnOr_L0 10000 rec x) M τ = some (.inr τ') ∧ tqM T τ' ∧ Fr (pLm n) τ τ' ∧ (((puL T opO (puX T opA sub) f a).1 = true ∧ τ'.1 0 3 = nI (puL T opO (puX T opA sub) f a).2.1 ∧ τ'.1 0 4 = -1 ∧ τ'.1 0 5 = nI w ∧ mqM n (L ++ (puL T opO (puX T opA sub) f a).2.2) τ') ∨ ((puL T opO (puX T opA sub) f a).1 = false ∧ bdM n (L.length + (T.1 - a)) (puL T opO (puX T opA sub) f a).2.1 τ')) := by
  have h240 := o.1
  have hgX : pgl T 1 (puX T opA sub) := pgl_X opA_ok hg
  have hsX := ImM_B o hs (agM o hn hs hg) hg sk_A
  intro f
  induction f with
  | zero => intro a M τ L h; omega
  | succ f ih =>
    intro a M τ L h1 hM ha hT e w4 w5 hL hl
    obtain ⟨M, rfl⟩ : ∃ m, M = m + 1 := ⟨M - 1, by omega⟩
    have hs0 := skp_le ha
    have hg0 := skp_ge (T := T) (a := a)
    obtain ⟨τ1, s1, s2, s3, s4⟩ := look_ok o (by omega) hT e
    have z4 := pLz_p s4
    have hL1 := mqM_fr hL z4
    have w41 : τ1.1 0 4 = -1 := by rw [s4 0 4 (by unfold pt; omega)]; exact w4
    have w51 : τ1.1 0 5 = nI w := by rw [s4 0 5 (by unfold pt; omega)]; exact w5
    have iff := op1_is (op := opO) (k := 124) (n := 11) (fun c => rfl) (by decide) (T := T) (s := skp T a)
    unfold puL
    by_cases c : opT opO T (skp T a) = 0
    · rw [if_pos c]
      refine ⟨τ1, ?_, s3, pLm_z z4, Or.inl ⟨rfl, s2, w41, w51, by show mqM n (L ++ []) τ1; rw [List.append_nil]; exact hL1⟩⟩
      apply lp_out
      show f_X12_goOnOr_L0 10000 rec τ = _
      unfold f_X12_goOnOr_L0
      rw [w4, if_pos rfl, s1, cl_some, if_neg (show ¬ chr T (skp T a) = 124 from fun h => iff.mpr ((chr_is (c := 124) o (by decide)).mp h) c)]
    · rw [if_neg c]
      have hlt := iff.mp c
      have hcode : (11 : Int32) = nI (opT opO T (skp T a)) := by rw [(opT_lt c).2, hlt.2]; rfl
      have U := Fr_pt (σ := τ1) (i := 0) (k := 3) (v := nI (skp T a + 1))
      have zU := pLz_p U
      obtain ⟨τ2, q1, q2, q3, q4⟩ := hsX (skp T a + 1) (sg_up τ1 0 3 (nI (skp T a + 1))) L (by omega) (tqM_z s3 zU) up_at (by rw [up_nk (by decide)]; exact w41) (by rw [up_nk (by decide)]; exact w51) (mqM_fr hL1 zU) (by omega)
      have q1 : (sg_cl (rec (sg_up τ1 0 3 (nI (skp T a + 1)))) fun _ s => f_X12_goOnAnd 10000 rec s) = some (0, τ2) := q1
      have q4 : ((puX T opA sub (skp T a + 1)).1 = true ∧ τ2.1 0 3 = nI (puX T opA sub (skp T a + 1)).2.1 ∧ τ2.1 0 4 = -1 ∧ τ2.1 0 5 = nI w ∧ mqM n (L ++ (puX T opA sub (skp T a + 1)).2.2) τ2) ∨ ((puX T opA sub (skp T a + 1)).1 = false ∧ bdM n (L.length + (T.1 - (skp T a + 1))) (puX T opA sub (skp T a + 1)).2.1 τ2) := q4
      have g := hgX (skp T a + 1) (by omega)
      have g1 := g.1
      have F2 : Fr (pLm n) τ τ2 := (pLm_z (z4.tr zU)).tr q3
      have top : f_X12_goOnOr_L0 10000 rec τ = (sg_cl (f_X12_put 10000 (nI (opT opO T (skp T a))) 0 τ2) fun v6 s7 => some (.inr (.inl s7))) := by
        unfold f_X12_goOnOr_L0
        rw [w4, if_pos rfl, s1, cl_some, if_pos (show chr T (skp T a) = 124 from (chr_is (c := 124) o (by decide)).mpr hlt), pf_eq, s2, nJ_addL, hcode]
        cases hr : rec (sg_up τ1 0 3 (nI (skp T a + 1))) with
        | none => rw [hr] at q1; cases q1
        | some x =>
          obtain ⟨v, s⟩ := x
          rw [hr, cl_some] at q1
          rw [cl_some, q1, cl_some]
      rcases q4 with ⟨cc, d3, d4, d5, d6⟩ | ⟨cc, d4⟩
      · have g2 := g.2 cc
        rw [if_pos cc]
        have hlen2 : (L ++ (puX T opA sub (skp T a + 1)).2.2).length = L.length + (puX T opA sub (skp T a + 1)).2.2.length := List.length_append
        obtain ⟨τ3, p1, p2, p3, p4⟩ := put_M (c' := nI (opT opO T (skp T a))) (v := 0) hn q2 d6 (by omega)
        have pz := put_z p4
        rw [p1, cl_some] at top
        obtain ⟨τ', r1, r2, r3, r4⟩ := ih (puX T opA sub (skp T a + 1)).2.1 M τ3 _ (by omega) (by omega) g.1 p2 (by rw [pz.1]; exact d3) (by rw [pz.2.1]; exact d4) (by rw [pz.2.2.1]; exact d5) p3 (by rw [List.length_append, List.length_singleton]; omega)
        refine ⟨τ', ?_, r2, (F2.tr pz.2.2.2).tr r3, ?_⟩
        · rw [lp_step (x' := τ3) top, r1]
        · rcases r4 with ⟨x1, x2, x3, x4, x5⟩ | ⟨x1, x2⟩
          · refine Or.inl ⟨x1, x2, x3, x4, ?_⟩
            show mqM n (L ++ ((puX T opA sub (skp T a + 1)).2.2 ++ ((nI (opT opO T (skp T a)), 0) :: (puL T opO (puX T opA sub) f (puX T opA sub (skp T a + 1)).2.1).2.2))) τ'
            rw [List.append_assoc, List.append_assoc] at x5
            exact x5
          · refine Or.inr ⟨x1, bdM_le x2 ?_⟩
            rw [List.length_append, List.length_singleton]
            omega
      · obtain ⟨L2, m1, m2⟩ := d4.2
        rw [if_neg (show ¬ (puX T opA sub (skp T a + 1)).1 = true by rw [cc]; decide)]
        obtain ⟨τ3, p1, p2, p3, p4⟩ := put_M (c' := nI (opT opO T (skp T a))) (v := 0) hn q2 m1 (by omega)
        have pz := put_z p4
        have w3 : τ3.1 0 4 = nI (puX T opA sub (skp T a + 1)).2.1 := by rw [pz.2.1]; exact d4.1
        rw [p1, cl_some] at top
        refine ⟨τ3, ?_, p2, F2.tr pz.2.2.2, Or.inr ⟨rfl, w3, _, p3, by rw [List.length_append, List.length_singleton]; omega⟩⟩
        obtain ⟨M, rfl⟩ : ∃ m, M = m + 1 := ⟨M - 1, by omega⟩
        rw [lp_step (x' := τ3) top]
        apply lp_out
        show f_X12_goOnOr_L0 10000 rec τ3 = _
        unfold f_X12_goOnOr_L0
        rw [w3, if_neg (by rw [nJ_ne_neg (by omega)]; exact id)]
theorem ogM {T : Nat × (Nat → Nat)} {n w : Nat} {rec : sgS → Option (Int32 × sgS)} {sub : Nat → PR} (o : okT T) (hn : n < 5) (hs : ImM T n w (fun τ => rec τ) sub) (hg : pgl T 1 sub) : ImM T n w (fun τ => f_X12_goOnOr 10000 rec τ) (puR T opO (puX T opA sub)) := by
  have h240 := o.1
  intro a τ L ha hT e w4 w5 hL hl
  obtain ⟨τ', r1, r2, r3, r4⟩ := ogM_lp o hn hs hg (T.1 + 1) a 10000 τ L (by omega) (by omega) ha hT e w4 w5 hL hl
  refine ⟨τ', ?_, r2, r3, r4⟩
  show f_X12_goOnOr 10000 rec τ = _
  unfold f_X12_goOnOr
  rw [r1, lb_inr]
