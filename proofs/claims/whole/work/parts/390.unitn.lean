/-! UNITS, the reference -/
theorem cdM {T : Nat × (Nat → Nat)} {n w : Nat} {rec : sgS → Option (Int32 × sgS)} {sub : Nat → PR} (o : okT T) (hn : n < 5) (hs : ImM T n w (fun τ => rec τ) sub) (hg : pgl T 1 sub) : ImM T n w (fun τ => f_X12_condition 10000 rec τ) (puX T opO (puX T opA sub)) := by
  have h1 := ImM_B o hs (agM o hn hs hg) hg sk_A
  have h2 := ImM_B o h1 (ogM o hn hs hg) (pgl_B hg (pgl_R opA_ok hg)) sk_O
  intro a τ L ha hT e w4 w5 hL hl
  obtain ⟨τ1, q1, q2, q3, q4⟩ := h2 a τ L ha hT e w4 w5 hL hl
  refine ⟨τ1, ?_, q2, q3, q4⟩
  have q1 : (sg_cl (sg_cl (rec τ) fun _ s => f_X12_goOnAnd 10000 rec s) fun _ s => f_X12_goOnOr 10000 rec s) = some (0, τ1) := q1
  show f_X12_condition 10000 rec τ = _
  unfold f_X12_condition
  cases hr : rec τ with
  | none => rw [hr] at q1; cases q1
  | some x =>
    obtain ⟨v, s⟩ := x
    rw [hr, cl_some] at q1
    rw [cl_some]
    cases hr2 : f_X12_goOnAnd 10000 rec s with
    | none => rw [hr2] at q1; cases q1
    | some x2 =>
      obtain ⟨v2, s2⟩ := x2
      rw [hr2, cl_some] at q1
      rw [cl_some, q1, cl_some]
theorem isC_M {T : Nat × (Nat → Nat)} {s : Nat} {τ : sgS} (o : okT T) : f_X12_isSign 10000 (chr T s) τ = some (if opT opC T s = 0 then 0 else 1) := by
  have := isC_C (σ := τ) (s := s) o
  unfold f_X3_isComparison at this
  unfold f_X12_isSign
  exact this
theorem cmM {T : Nat × (Nat → Nat)} {n w : Nat} (o : okT T) (hn : n < 5) (hw : w ≤ 6) : ImM T n w (fun τ => f_X12_compare 10000 τ) (puC T w) := by
  intro a τ L ha hT e w4 w5 hL hl
  have h240 := o.1
  have hs0 := skp_le ha
  have hg0 := skp_ge (T := T) (a := a)
  obtain ⟨τ1, s1, s2, s3, s4⟩ := look_ok o (by omega) hT e
  have z4 := pLz_p s4
  have hL1 := mqM_fr hL z4
  have w41 : τ1.1 0 4 = -1 := by rw [s4 0 4 (by unfold pt; omega)]; exact w4
  have w51 : τ1.1 0 5 = nI w := by rw [s4 0 5 (by unfold pt; omega)]; exact w5
  show ∃ τ', f_X12_compare 10000 τ = some (0, τ') ∧ _
  unfold f_X12_compare f_X12_compare_B16 puC
  rw [w4, if_pos rfl, s1, cl_some, isC_M o, cr_some]
  by_cases c : opT opC T (skp T a) = 0
  · rw [if_pos c, if_pos c, if_pos rfl, bad_ok s2 w41, cl_some]
    have F : Fr pLz τ (sg_up τ1 0 4 (nI (skp T a))) := z4.tr (Fr.up ⟨rfl, Or.inr (Or.inl rfl)⟩)
    exact ⟨_, rfl, tqM_z hT F, pLm_z F, Or.inr ⟨rfl, up_at, L, mqM_fr hL F, by omega⟩⟩
  · have hlt := opT_lt c
    have hc := (opC_code c).2
    rw [if_neg c, if_neg c, if_neg nn10, pf_eq, s2, nJ_addL]
    have U := Fr_pt (σ := τ1) (i := 0) (k := 3) (v := nI (skp T a + 1))
    have zU := pLz_p U
    obtain ⟨τ2, q1, q2, q3, q4⟩ := smM o hn 40 w hw (by omega) (skp T a + 1) (sg_up τ1 0 3 (nI (skp T a + 1))) L (by omega) (tqM_z s3 zU) up_at (by rw [up_nk (by decide)]; exact w41) (by rw [up_nk (by decide)]; exact w51) (mqM_fr hL1 zU) (by omega)
    have q1 : f_X12_sum 40 10000 (sg_up τ1 0 3 (nI (skp T a + 1))) = some (0, τ2) := q1
    have g := pgl_S (T := T) 40 w (by omega) (skp T a + 1) (by omega)
    have g1 := g.1
    have F2 : Fr (pLm n) τ τ2 := (pLm_z (z4.tr zU)).tr q3
    have tail : (if chr T (skp T a) = 61 then (sg_cl (f_X12_put 10000 6 0 τ2) fun v9 s10 => some ((0 : Int32), s10)) else if chr T (skp T a) = 60 then (sg_cl (f_X12_put 10000 7 0 τ2) fun v7 s8 => some (0, s8)) else (sg_cl (f_X12_put 10000 8 0 τ2) fun v5 s6 => some (0, s6))) = (sg_cl (f_X12_put 10000 (nI (opT opC T (skp T a))) 0 τ2) fun _ s => some (0, s)) := by
      rw [chr_y hlt.1]
      rcases hc with ⟨h1, h2⟩ | ⟨h1, h2⟩ | ⟨h1, h2⟩
      · rw [h1, h2, if_pos (show nI 61 = 61 from rfl)]; rfl
      · rw [h1, h2, if_neg (show ¬ nI 60 = 61 by decide), if_pos (show nI 60 = 60 from rfl)]; rfl
      · rw [h1, h2, if_neg (show ¬ nI 62 = 61 by decide), if_neg (show ¬ nI 62 = 60 by decide)]; rfl
    rw [q1, cl_some, tail]
    rcases q4 with ⟨cc, d3, d4, d5, d6⟩ | ⟨cc, d4⟩
    · have g2 := g.2 cc
      have hlen2 : (L ++ (puS T 40 w (skp T a + 1)).2.2).length = L.length + (puS T 40 w (skp T a + 1)).2.2.length := List.length_append
      obtain ⟨τ3, p1, p2, p3, p4⟩ := put_M (c' := nI (opT opC T (skp T a))) (v := 0) hn q2 d6 (by omega)
      have pz := put_z p4
      rw [p1, cl_some, if_pos cc]
      refine ⟨τ3, rfl, p2, F2.tr pz.2.2.2, Or.inl ⟨rfl, by rw [pz.1]; exact d3, by rw [pz.2.1]; exact d4, by rw [pz.2.2.1]; exact d5, ?_⟩⟩
      rw [List.append_assoc] at p3
      exact p3
    · obtain ⟨L2, m1, m2⟩ := d4.2
      obtain ⟨τ3, p1, p2, p3, p4⟩ := put_M (c' := nI (opT opC T (skp T a))) (v := 0) hn q2 m1 (by omega)
      have pz := put_z p4
      rw [p1, cl_some, if_neg (show ¬ (puS T 40 w (skp T a + 1)).1 = true by rw [cc]; decide)]
      exact ⟨τ3, rfl, p2, F2.tr pz.2.2.2, Or.inr ⟨rfl, by rw [pz.2.1]; exact d4.1, _, p3, by rw [List.length_append, List.length_singleton]; omega⟩⟩
