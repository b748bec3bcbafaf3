/-! A LAW'S CLAUSES READ, the class -/
theorem puE_nil {T : Nat × (Nat → Nat)} {c a : Nat} : (puE T c a).2.2 = [] := by unfold puE; split <;> rfl
theorem cl_flat {x : Option (Int32 × sgS)} {g k : sgS → Option (Int32 × sgS)} : (sg_cl (sg_cl x fun v s => if v = 0 then some (vp_nar .boolean 0, s) else g s) fun v s => if v = 0 then some (vp_nar .boolean 0, s) else k s) = (sg_cl x fun v s => if v = 0 then some (vp_nar .boolean 0, s) else sg_cl (g s) fun v s => if v = 0 then some (vp_nar .boolean 0, s) else k s) := by
  cases x with
  | none => rfl
  | some y =>
    obtain ⟨v, s⟩ := y
    rw [cl_some, cl_some]
    by_cases hv : v = 0
    · rw [if_pos hv, if_pos hv, cl_some, if_pos (show vp_nar .boolean 0 = 0 from rfl)]
    · rw [if_neg hv, if_neg hv]
/-- a look first -/
theorem mC_s {T : Nat × (Nat → Nat)} {w : Nat} (o : okT T) (hw : w ≤ 6) : ImC T (fun σ => sg_cl (f_X9_sign 10000 σ) fun _ s => f_X3_goOnComparison 10000 (nI w) s) (puC T w) := by
  intro a σ L ha hT e hL hl
  have h240 := o.1
  have hg := skp_ge (T := T) (a := a)
  obtain ⟨σ1, s1, s2, s3, s4⟩ := sign_ok o (by omega) hT e
  show ∃ σ' z, (sg_cl (f_X9_sign 10000 σ) fun _ s => f_X3_goOnComparison 10000 (nI w) s) = some (z, σ') ∧ _
  rw [s1, cl_some]
  obtain ⟨σ2, z, q1, q2, q3, q4, q5⟩ := cmC o hw (skp T a) σ1 L (skp_le ha) s3 s2 (cqC_fr hL s4) (by omega)
  have ep : puC T w (skp T a) = puC T w a := by unfold puC; rw [skp_id]
  rw [ep] at q3 q5
  exact ⟨σ2, z, q1, q2, q3, (pLc_p s4).tr q4, q5⟩
theorem clauC {T : Nat × (Nat → Nat)} {a : Nat} {σ : sgS} {L : List Int32} (o : okT T) (ha : a ≤ T.1) (hT : tqC T σ) (e : σ.1 1 2 = nI a) (hL : cqC L σ) (hl : L.length ≤ a) : ∃ σ' z, f_X3_readClause 10000 σ = some (z, σ') ∧ tqC T σ' ∧ σ'.1 1 2 = nI (puQ T a).2.1 ∧ Fr pLc σ σ' ∧ (((puQ T a).1 = true ∧ z = 1 ∧ cqC (L ++ lwCl (puQ T a).2.2) σ') ∨ ((puQ T a).1 = false ∧ z = 0)) := by
  have h240 := o.1
  have hY := puY_ok ha
  have gU := pgl_U (T := T) 40 0 (by decide)
  have uC := unC o 40 0 (by decide) (by decide)
  have uC : ImC T (fun σ => f_X3_readUnit 40 10000 0 σ) (puU T 40 0) := uC
  have sC := smC o 40 0 (by decide) (by decide)
  have sC : ImC T (fun σ => f_X3_readSum 40 10000 0 σ) (puS T 40 0) := sC
  have mC := cmC (w := 0) o (by decide)
  have mC : ImC T (fun σ => f_X3_goOnComparison 10000 0 σ) (puC T 0) := mC
  have yC := ImC_B (ImC_E (c := 121) o (by decide)) (ImC_E (c := 58) o (by decide)) (pgl_E (T := T) (c := 121))
  obtain ⟨σ1, z1, q1, q2, q3, q4, q5⟩ := yC a σ L ha hT e hL hl
  have q1 : (sg_cl (f_X9_takes 10000 121 σ) fun v s => if v = 0 then some (vp_nar .boolean 0, s) else f_X9_takes 10000 58 s) = some (z1, σ1) := q1
  have q3 : σ1.1 1 2 = nI (puY T a).2.1 := q3
  have q5 : ((puY T a).1 = true ∧ z1 = 1 ∧ cqC (L ++ (puY T a).2.2.map lwE) σ1) ∨ ((puY T a).1 = false ∧ z1 = 0) := q5
  have top : ∀ (K : sgS → Option (Int32 × sgS)), (sg_cl (f_X9_takes 10000 121 σ) fun v1 s2 => if v1 = 0 then some (vp_nar .boolean 0, s2) else sg_cl (f_X9_takes 10000 58 s2) fun v3 s4 => if v3 = 0 then some (vp_nar .boolean 0, s4) else K s4) = (if z1 = 0 then some (vp_nar .boolean 0, σ1) else K σ1) := by
    intro K
    cases hr : f_X9_takes 10000 121 σ with
    | none => rw [hr] at q1; cases q1
    | some x =>
      obtain ⟨v, s⟩ := x
      rw [hr, cl_some] at q1
      rw [cl_some]
      by_cases hv : v = 0
      · rw [if_pos hv] at q1 ⊢
        have q1 : some ((0 : Int32), s) = some (z1, σ1) := q1
        cases q1
        rw [if_pos rfl]
      · rw [if_neg hv] at q1 ⊢
        rw [q1, cl_some]
  unfold f_X3_readClause
  rw [top]
  unfold puQ
  rcases q5 with ⟨c, hz, hL1⟩ | ⟨c, hz⟩
  · have e0 : (puY T a).2.2 = [] := by
      unfold puY puB
      split
      · show (puE T 121 a).2.2 ++ (puE T 58 (puE T 121 a).2.1).2.2 = []
        rw [puE_nil, puE_nil]
        rfl
      · rfl
    rw [e0] at hL1
    have hL1 : cqC (L ++ []) σ1 := hL1
    rw [List.append_nil] at hL1
    have h2 := hY.2 c
    have hb := skp_le hY.1
    have hg := skp_ge (T := T) (a := (puY T a).2.1)
    rw [hz, if_neg nn10, if_pos c]
    obtain ⟨σ2, s1, s2, s3, s4⟩ := sign_ok o (by omega) q2 q3
    have hL2 := cqC_fr hL1 s4
    have F2 : Fr pLc σ σ2 := q4.tr (pLc_p s4)
    rw [s1, cl_some]
    have notis : ∀ c, c < 1000 → ¬ isT c T (skp T (puY T a).2.1) = true → ¬ chr T (skp T (puY T a).2.1) = nI c := fun c hc h h2 => h (by unfold isT; exact decide_eq_true ((chr_is o (by omega)).mp h2))
    have isis : ∀ c, c < 1000 → isT c T (skp T (puY T a).2.1) = true → chr T (skp T (puY T a).2.1) = nI c := fun c hc h => (chr_is o (by omega)).mpr (isT_lt h)
    have caseA : ∃ σ' z, f_X3_readClause_B46 10000 σ2 = some (z, σ') ∧ tqC T σ' ∧ σ'.1 1 2 = nI (puZ T (puT1 T) (skp T (puY T a).2.1)).2.1 ∧ Fr pLc σ2 σ' ∧ (((puZ T (puT1 T) (skp T (puY T a).2.1)).1 = true ∧ z = 1 ∧ cqC (L ++ lwCl (puZ T (puT1 T) (skp T (puY T a).2.1)).2.2) σ') ∨ ((puZ T (puT1 T) (skp T (puY T a).2.1)).1 = false ∧ z = 0)) :=
      zC o (rcC (rec := f_X3_readUnit 40 10000) (p1 := 0) o uC gU) pgl_T1 (fun a ha h => ty_T1 ha h) hb s3 s2 hL2 (by omega)
    by_cases c1 : isT 33 T (skp T (puY T a).2.1) = true
    · rw [if_pos (show chr T (skp T (puY T a).2.1) = 33 from isis 33 (by decide) c1), if_pos (Or.inl c1)]
      obtain ⟨σ', z, r1, r2, r3, r4, r5⟩ := caseA
      exact ⟨σ', z, r1, r2, r3, F2.tr r4, r5⟩
    · rw [if_neg (show ¬ chr T (skp T (puY T a).2.1) = 33 from notis 33 (by decide) c1)]
      by_cases c2 : isT 40 T (skp T (puY T a).2.1) = true
      · rw [if_pos (show chr T (skp T (puY T a).2.1) = 40 from isis 40 (by decide) c2), if_pos (Or.inr c2)]
        obtain ⟨σ', z, r1, r2, r3, r4, r5⟩ := caseA
        exact ⟨σ', z, r1, r2, r3, F2.tr r4, r5⟩
      · rw [if_neg (show ¬ chr T (skp T (puY T a).2.1) = 40 from notis 40 (by decide) c2), if_neg (show ¬ (isT 33 T (skp T (puY T a).2.1) = true ∨ isT 40 T (skp T (puY T a).2.1) = true) from fun h => h.elim c1 c2)]
        obtain ⟨σ3, z3, r1, r2, r3, r4, r5⟩ := sC (skp T (puY T a).2.1) σ2 L hb s3 s2 hL2 (by omega)
        have r1 : f_X3_readSum 40 10000 0 σ2 = some (z3, σ3) := r1
        have hS := pgl_S (T := T) 40 0 (by decide) (skp T (puY T a).2.1) hb
        rcases r5 with ⟨d, hz3, hL3⟩ | ⟨d, hz3⟩
        · have hS2 := hS.2 d
          have hS1 := hS.1
          obtain ⟨σ4, t1, t2, t3, t4⟩ := sign_ok o (by omega) r2 r3
          have hL4 := cqC_fr hL3 t4
          have hl4 := skp_le hS.1
          have hg4 := skp_ge (T := T) (a := (puS T 40 0 (skp T (puY T a).2.1)).2.1)
          by_cases cc : opT opC T (skp T (puS T 40 0 (skp T (puY T a).2.1)).2.1) = 0
          · obtain ⟨σ5, e1, e2, e3, e4, e5⟩ := emit_C (x := 20059) t3 t2 hL4 (by rw [List.length_append, List.length_map]; omega)
            rw [r1, cl_some, hz3, if_neg nn10, t1, cl_some, isC_C o, cr_some, if_pos cc, if_pos rfl, e1, cl_some, if_pos ⟨d, cc⟩]
            refine ⟨σ5, _, rfl, e2, e3, ((F2.tr r4).tr (pLc_p t4)).tr e4, Or.inl ⟨rfl, rfl, ?_⟩⟩
            show cqC (L ++ ([] ++ (puS T 40 0 (skp T (puY T a).2.1)).2.2.map lwE ++ [20059])) σ5
            rw [List.nil_append, ← List.append_assoc]
            exact e5
          · rw [if_neg (show ¬ ((puS T 40 0 (skp T (puY T a).2.1)).1 = true ∧ opT opC T (skp T (puS T 40 0 (skp T (puY T a).2.1)).2.1) = 0) from fun h => cc h.2)]
            have hF := ImC_B sC (ImC_B (mC_s (w := 0) o (by decide)) (gcC (rec := f_X3_readUnit 40 10000) (p1 := 0) o uC gU) pgl_C) (pgl_S (T := T) 40 0 (by decide))
            obtain ⟨σ', z, u1, u2, u3, u4, u5⟩ := zC o hF pgl_T2 (fun a ha h => ty_T2 ha h) hb s3 s2 hL2 (by omega)
            refine ⟨σ', z, ?_, u2, u3, F2.tr u4, u5⟩
            rw [r1, cl_some, hz3, if_neg nn10, t1, cl_some, cl_flat] at u1
            rw [r1, cl_some, hz3, if_neg nn10, t1, cl_some, isC_C o, cr_some, if_neg cc, if_neg nn10]
            exact u1
        · rw [r1, cl_some, hz3, if_pos rfl, if_neg (show ¬ ((puS T 40 0 (skp T (puY T a).2.1)).1 = true ∧ opT opC T (skp T (puS T 40 0 (skp T (puY T a).2.1)).2.1) = 0) from fun h => by rw [d] at h; cases h.1)]
          refine ⟨σ3, _, rfl, r2, ?_, F2.tr r4, Or.inr ?_⟩
          · show σ3.1 1 2 = nI (puZ T (puT2 T) (skp T (puY T a).2.1)).2.1
            unfold puZ puT2
            rw [show puB (puS T 40 0) (puB (puC T 0) (puG T (puU T 40 0))) (skp T (puY T a).2.1) = (false, (puS T 40 0 (skp T (puY T a).2.1)).2.1, []) from if_neg (fun h => by rw [d] at h; cases h), if_neg (fun h => by cases h)]
            exact r3
          · unfold puZ puT2
            rw [show puB (puS T 40 0) (puB (puC T 0) (puG T (puU T 40 0))) (skp T (puY T a).2.1) = (false, (puS T 40 0 (skp T (puY T a).2.1)).2.1, []) from if_neg (fun h => by rw [d] at h; cases h), if_neg (fun h => by cases h)]
            exact ⟨rfl, rfl⟩
  · rw [hz, if_pos rfl, if_neg (show ¬ (puY T a).1 = true by rw [c]; decide)]
    exact ⟨σ1, _, rfl, q2, q3, q4, Or.inr ⟨rfl, rfl⟩⟩
theorem lwC_lp {T : Nat × (Nat → Nat)} (o : okT T) : ∀ f a j M σ L, T.1 - a < f → f ≤ M → 2 * j ≤ a → a ≤ T.1 → tqC T σ → σ.1 1 2 = nI a → cqC L σ → L.length ≤ a → ∃ σ' z, sg_lp (fun x : sgS × Int32 => f_X3_readLaw_L15 10000 x.2 x.1) M ((σ, nI j)) = some (.inl (z, σ')) ∧ tqC T σ' ∧ σ'.1 1 2 = nI (lwW T f a).2.1 ∧ Fr pLc σ σ' ∧ (((lwW T f a).1 = true ∧ z = 1 ∧ cqC (L ++ lwCode (lwW T f a).2.2) σ') ∨ ((lwW T f a).1 = false ∧ z = 0)) := by
  have h240 := o.1
  intro f
  induction f with
  | zero => intro a j M σ L h; omega
  | succ f ih =>
    intro a j M σ L h1 hM hj ha hT e hL hl
    obtain ⟨M, rfl⟩ : ∃ m, M = m + 1 := ⟨M - 1, by omega⟩
    have tn : ¬ (240 : Int32) ≤ nI j := by rw [nJ_Lle (by omega) (by decide)]; omega
    have hQ := puQ_ok ha
    obtain ⟨σ1, z, q1, q2, q3, q4, q5⟩ := clauC o ha hT e hL hl
    unfold lwW
    rcases q5 with ⟨c, hz, hL1⟩ | ⟨c, hz⟩
    · rw [if_pos c]
      have h2 := hQ.2 c
      have hQ1 := hQ.1
      have hl2 := skp_le hQ.1
      have hg := skp_ge (T := T) (a := (puQ T a).2.1)
      obtain ⟨σ2, s1, s2, s3, s4⟩ := sign_ok o (by omega) q2 q3
      have hL2 := cqC_fr hL1 s4
      have F2 : Fr pLc σ σ2 := q4.tr (pLc_p s4)
      by_cases c1 : T.1 ≤ skp T (puQ T a).2.1
      · rw [if_pos c1]
        refine ⟨σ2, 1, ?_, s3, s2, F2, Or.inl ⟨rfl, rfl, ?_⟩⟩
        · apply lp_ret
          show f_X3_readLaw_L15 10000 (nI j) σ = _
          unfold f_X3_readLaw_L15
          rw [if_neg tn, q1, cl_some, hz, if_neg nn10, s1, cl_some, if_pos ((chr_end o).mpr c1)]
          rfl
        · show cqC (L ++ (lwCl (puQ T a).2.2 ++ [])) σ2
          rw [List.append_nil]
          exact hL2
      · rw [if_neg c1]
        obtain ⟨σ3, t1, t2, t3, t4⟩ := takes_ok (c := 59) o (by omega) (by decide) s3 s2
        have t1 : f_X9_takes 10000 59 σ2 = _ := t1
        rw [skp_id] at t1 t2
        have hL3 := cqC_fr hL2 t4
        have F3 : Fr pLc σ σ3 := F2.tr (pLc_p t4)
        have ne : ¬ chr T (skp T (puQ T a).2.1) = -1 := fun h => c1 ((chr_end o).mp h)
        by_cases c2 : T.2 (skp T (puQ T a).2.1) = 59
        · have hch : chr T (skp T (puQ T a).2.1) = nI 59 := (chr_is o (by decide)).mpr ⟨by omega, c2⟩
          rw [if_pos hch] at t1 t2
          rw [if_pos c2]
          obtain ⟨σ', z', r1, r2, r3, r4, r5⟩ := ih (skp T (puQ T a).2.1 + 1) (j + 1) M σ3 _ (by omega) (by omega) (by omega) (by omega) t3 t2 hL3 (by rw [List.length_append]; omega)
          refine ⟨σ', z', ?_, r2, r3, F3.tr r4, ?_⟩
          · rw [lp_step (x' := (σ3, nI (j + 1))), r1]
            show f_X3_readLaw_L15 10000 (nI j) σ = _
            unfold f_X3_readLaw_L15
            rw [if_neg tn, q1, cl_some, hz, if_neg nn10, s1, cl_some, if_neg ne, t1, cl_some, if_neg nn10, nJ_addL]
          · rcases r5 with ⟨d, d2, d3⟩ | d
            · refine Or.inl ⟨d, d2, ?_⟩
              show cqC (L ++ (lwCl (puQ T a).2.2 ++ lwCode (lwW T f (skp T (puQ T a).2.1 + 1)).2.2)) σ'
              rw [← List.append_assoc]
              exact d3
            · exact Or.inr d
        · have hch : ¬ chr T (skp T (puQ T a).2.1) = nI 59 := fun h => c2 ((chr_is o (by decide)).mp h).2
          rw [if_neg hch] at t1 t2
          rw [if_neg c2]
          refine ⟨σ3, 0, ?_, t3, t2, F3, Or.inr ⟨rfl, rfl⟩⟩
          apply lp_ret
          show f_X3_readLaw_L15 10000 (nI j) σ = _
          unfold f_X3_readLaw_L15
          rw [if_neg tn, q1, cl_some, hz, if_neg nn10, s1, cl_some, if_neg ne, t1, cl_some, if_pos rfl]
          rfl
    · rw [if_neg (show ¬ (puQ T a).1 = true by rw [c]; decide)]
      refine ⟨σ1, 0, ?_, q2, q3, q4, Or.inr ⟨rfl, rfl⟩⟩
      apply lp_ret
      show f_X3_readLaw_L15 10000 (nI j) σ = _
      unfold f_X3_readLaw_L15
      rw [if_neg tn, q1, cl_some, hz, if_pos rfl]
      rfl
theorem lwC_ok {T : Nat × (Nat → Nat)} {σ : sgS} (o : okT T) (hT : tqC T σ) : ∃ σ' z, f_X3_readLaw 10000 σ = some (z, σ') ∧ tqC T σ' ∧ σ'.1 1 2 = nI (lwRd T).2.1 ∧ Fr pLc σ σ' ∧ (((lwRd T).1 = true ∧ z = 1 ∧ cqC (lwCode (lwRd T).2.2) σ') ∨ ((lwRd T).1 = false ∧ z = 0)) := by
  have h240 := o.1
  have F : Fr pLc σ (sg_up (sg_up σ 1 2 0) 19 2 0) := Fr.tr (Fr.up (Or.inl ⟨rfl, rfl⟩)) (Fr.up (Or.inr (Or.inl ⟨rfl, rfl⟩)))
  obtain ⟨σ', z, r1, r2, r3, r4, r5⟩ := lwC_lp o (T.1 + 1) 0 0 10000 (sg_up (sg_up σ 1 2 0) 19 2 0) [] (by omega) (by omega) (by omega) (Nat.zero_le _) (tqC_fr hT F (by unfold pLc; omega) (fun q => by unfold pLc; omega)) (by rw [up_ne (by decide), up_at]; rfl) ⟨by rw [up_at]; rfl, fun i hi => absurd hi (Nat.not_lt_zero _)⟩ (Nat.zero_le _)
  have r1 : sg_lp (fun x : sgS × Int32 => f_X3_readLaw_L15 10000 x.2 x.1) 10000 ((sg_up (sg_up σ 1 2 0) 19 2 0, 0)) = _ := r1
  refine ⟨σ', z, ?_, r2, r3, F.tr r4, r5⟩
  unfold f_X3_readLaw
  rw [pf_eq, pf_eq, r1, lb_inl]
