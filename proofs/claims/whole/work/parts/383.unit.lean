/-! TESTS READ, the class -/
/-- the same, but for what is given where it fails -/
def puEq (x y : PR) : Prop := x.1 = y.1 ∧ x.2.1 = y.2.1 ∧ (x.1 = true → x.2.2 = y.2.2)
theorem puB_assoc {p q r : Nat → PR} (a : Nat) : puEq (puB p (puB q r) a) (puB (puB p q) r a) := by
  unfold puB
  by_cases c : (p a).1 = true
  · rw [if_pos c, if_pos c]
    by_cases d : (q (p a).2.1).1 = true
    · rw [if_pos d, if_pos (show ((q (p a).2.1).1, (q (p a).2.1).2.1, (p a).2.2 ++ (q (p a).2.1).2.2).1 = true from d)]
      exact ⟨rfl, rfl, fun _ => (List.append_assoc _ _ _).symm⟩
    · rw [if_neg d, if_neg (show ¬ ((q (p a).2.1).1, (q (p a).2.1).2.1, (p a).2.2 ++ (q (p a).2.1).2.2).1 = true from d)]
      exact ⟨rfl, rfl, (fun h => by cases h)⟩
  · rw [if_neg c, if_neg c]
    exact ⟨rfl, rfl, fun _ => rfl⟩
theorem ImC_eq {T : Nat × (Nat → Nat)} {f : sgS → Option (Int32 × sgS)} {p q : Nat → PR} (h : ∀ a, puEq (p a) (q a)) (hf : ImC T f p) : ImC T f q := by
  intro a σ L ha hT e hL hl
  obtain ⟨σ1, z, q1, q2, q3, q4, q5⟩ := hf a σ L ha hT e hL hl
  obtain ⟨h1, h2, h3⟩ := h a
  refine ⟨σ1, z, q1, q2, by rw [← h2]; exact q3, q4, ?_⟩
  rcases q5 with ⟨c, d, g⟩ | ⟨c, d⟩
  · exact Or.inl ⟨by rw [← h1]; exact c, d, by rw [← h3 c]; exact g⟩
  · exact Or.inr ⟨by rw [← h1]; exact c, d⟩
theorem op1_is {op : Nat → Nat} {k n : Nat} (h : ∀ c, op c = if c = k then n else 0) (hn : n ≠ 0) {T : Nat × (Nat → Nat)} {s : Nat} : (opT op T s ≠ 0 ↔ (s < T.1 ∧ T.2 s = k)) := by
  unfold opT
  by_cases c : s < T.1
  · rw [if_pos c, h]
    by_cases d : T.2 s = k
    · rw [if_pos d]; exact ⟨fun _ => ⟨c, d⟩, fun _ => hn⟩
    · rw [if_neg d]; exact ⟨fun x => absurd rfl x, fun x => absurd x.2 d⟩
  · rw [if_neg c]; exact ⟨fun x => absurd rfl x, fun x => absurd x.1 c⟩
theorem agC_lp {T : Nat × (Nat → Nat)} {rec : Int32 → sgS → Option (Int32 × sgS)} {p1 : Int32} {sub : Nat → PR} (o : okT T) (hs : ImC T (fun σ => rec p1 σ) sub) (hg : pgl T 1 sub) : ∀ f a j M σ L, T.1 - a < f → f ≤ M → 2 * j ≤ a → a ≤ T.1 → tqC T σ → σ.1 1 2 = nI a → cqC L σ → L.length ≤ a → ∃ σ' z, (sg_lb (sg_lp (fun x : sgS × Int32 => f_X3_goOnTruth_L2 10000 rec p1 x.2 x.1) M ((σ, nI j))) (fun r => some r) fun y7 => some (vp_nar .boolean 1, y7)) = some (z, σ') ∧ tqC T σ' ∧ σ'.1 1 2 = nI (puL T opA sub f a).2.1 ∧ Fr pLc σ σ' ∧ (((puL T opA sub f a).1 = true ∧ z = 1 ∧ cqC (L ++ (puL T opA sub f a).2.2.map lwE) σ') ∨ ((puL T opA sub f a).1 = false ∧ z = 0)) := by
  have h240 := o.1
  intro f
  induction f with
  | zero => intro a j M σ L h; omega
  | succ f ih =>
    intro a j M σ L h1 hM hj ha hT e hL hl
    obtain ⟨M, rfl⟩ : ∃ m, M = m + 1 := ⟨M - 1, by omega⟩
    have hs0 := skp_le ha
    have hg0 := skp_ge (T := T) (a := a)
    have tn : ¬ (240 : Int32) ≤ nI j := by rw [nJ_Lle (by omega) (by decide)]; omega
    obtain ⟨σ1, s1, s2, s3, s4⟩ := takes_ok (c := 38) o (by omega) (by decide) hT e
    have s1 : f_X9_takes 10000 38 σ = _ := s1
    have hL1 := cqC_fr hL s4
    have iff := op1_is (op := opA) (k := 38) (n := 10) (fun c => rfl) (by decide) (T := T) (s := skp T a)
    unfold puL
    by_cases c : opT opA T (skp T a) = 0
    · have n1 : ¬ chr T (skp T a) = nI 38 := fun h => iff.mpr ((chr_is o (by decide)).mp h) c
      rw [if_neg n1] at s1 s2
      rw [if_pos c]
      refine ⟨σ1, 1, ?_, s3, s2, pLc_p s4, Or.inl ⟨rfl, rfl, by show cqC (L ++ []) σ1; rw [List.append_nil]; exact hL1⟩⟩
      rw [lp_out (y := σ1), lb_inr]
      · rfl
      · show f_X3_goOnTruth_L2 10000 rec p1 (nI j) σ = _
        unfold f_X3_goOnTruth_L2
        rw [if_neg tn, s1, cl_some, if_pos rfl]
    · have hlt := iff.mp c
      rw [if_pos ((chr_is o (by decide)).mpr hlt)] at s1 s2
      rw [if_neg c]
      have hcode : (20038 : Int32) = lwE (nI (opT opA T (skp T a)), 0) := by
        rw [(opT_lt c).2, hlt.2]; rfl
      obtain ⟨σ2, z, q1, q2, q3, q4, q5⟩ := hs (skp T a + 1) σ1 L (by omega) s3 s2 hL1 (by omega)
      have q1 : rec p1 σ1 = some (z, σ2) := q1
      have g := hg (skp T a + 1) (by omega)
      have F2 : Fr pLc σ σ2 := (pLc_p s4).tr q4
      have top : f_X3_goOnTruth_L2 10000 rec p1 (nI j) σ = (if z = 0 then some (.inl (vp_nar .boolean 0, σ2)) else (sg_cl (f_X3_emit 10000 (lwE (nI (opT opA T (skp T a)), 0)) σ2) fun v5 s6 => if v5 = 0 then some (.inl (vp_nar .boolean 0, s6)) else some (.inr (.inl (s6, nI (j + 1)))))) := by
        unfold f_X3_goOnTruth_L2
        rw [if_neg tn, s1, cl_some, if_neg nn10, q1, cl_some, hcode, nJ_addL]
      rcases q5 with ⟨cc, hz, hL2⟩ | ⟨cc, hz⟩
      · have g2 := g.2 cc
        rw [if_pos cc]
        have hlen : (L ++ (sub (skp T a + 1)).2.2.map lwE).length + 1 ≤ (sub (skp T a + 1)).2.1 := by rw [List.length_append, List.length_map]; omega
        obtain ⟨σ3, e1, e2, e3, e4, e5⟩ := emit_C (x := lwE (nI (opT opA T (skp T a)), 0)) q2 q3 hL2 (by omega)
        rw [hz, if_neg nn10, e1, cl_some, if_neg nn10] at top
        obtain ⟨σ', z', r1, r2, r3, r4, r5⟩ := ih (sub (skp T a + 1)).2.1 (j + 1) M σ3 _ (by omega) (by omega) (by omega) g.1 e2 e3 e5 (by rw [List.length_append, List.length_singleton]; omega)
        refine ⟨σ', z', ?_, r2, r3, (F2.tr e4).tr r4, ?_⟩
        · rw [lp_step (x' := (σ3, nI (j + 1))) top, r1]
        · rcases r5 with ⟨d, d2, d3⟩ | d
          · refine Or.inl ⟨d, d2, ?_⟩
            show cqC (L ++ ((sub (skp T a + 1)).2.2 ++ ((nI (opT opA T (skp T a)), 0) :: (puL T opA sub f (sub (skp T a + 1)).2.1).2.2)).map lwE) σ'
            rw [List.map_append, List.map_cons]
            rw [List.append_assoc, List.append_assoc] at d3
            exact d3
          · exact Or.inr d
      · rw [if_neg (show ¬ (sub (skp T a + 1)).1 = true by rw [cc]; decide)]
        rw [hz, if_pos rfl] at top
        refine ⟨σ2, 0, ?_, q2, q3, F2, Or.inr ⟨rfl, rfl⟩⟩
        rw [lp_ret top, lb_inl]
        rfl
theorem agC {T : Nat × (Nat → Nat)} {rec : Int32 → sgS → Option (Int32 × sgS)} {p1 : Int32} {sub : Nat → PR} (o : okT T) (hs : ImC T (fun σ => rec p1 σ) sub) (hg : pgl T 1 sub) : ImC T (fun σ => f_X3_goOnTruth 10000 rec p1 σ) (puR T opA sub) := by
  have h240 := o.1
  intro a σ L ha hT e hL hl
  exact agC_lp o hs hg (T.1 + 1) a 0 10000 σ L (by omega) (by omega) (by omega) ha hT e hL hl
theorem ogC_lp {T : Nat × (Nat → Nat)} {rec : Int32 → sgS → Option (Int32 × sgS)} {p1 : Int32} {sub : Nat → PR} (o : okT T) (hs : ImC T (fun σ => rec p1 σ) sub) (hg : pgl T 1 sub) : ∀ f a j M σ L, T.1 - a < f → f ≤ M → 2 * j ≤ a → a ≤ T.1 → tqC T σ → σ.1 1 2 = nI a → cqC L σ → L.length ≤ a → ∃ σ' z, (sg_lb (sg_lp (fun x : sgS × Int32 => f_X3_goOnCondition_L12 10000 rec p1 x.2 x.1) M ((σ, nI j))) (fun r => some r) fun y11 => some (vp_nar .boolean 1, y11)) = some (z, σ') ∧ tqC T σ' ∧ σ'.1 1 2 = nI (puL T opO (puX T opA sub) f a).2.1 ∧ Fr pLc σ σ' ∧ (((puL T opO (puX T opA sub) f a).1 = true ∧ z = 1 ∧ cqC (L ++ (puL T opO (puX T opA sub) f a).2.2.map lwE) σ') ∨ ((puL T opO (puX T opA sub) f a).1 = false ∧ z = 0)) := by
  have h240 := o.1
  have hgX : pgl T 1 (puX T opA sub) := pgl_X opA_ok hg
  have hsX := ImC_B hs (agC o hs hg) hg
  intro f
  induction f with
  | zero => intro a j M σ L h; omega
  | succ f ih =>
    intro a j M σ L h1 hM hj ha hT e hL hl
    obtain ⟨M, rfl⟩ : ∃ m, M = m + 1 := ⟨M - 1, by omega⟩
    have hs0 := skp_le ha
    have hg0 := skp_ge (T := T) (a := a)
    have tn : ¬ (240 : Int32) ≤ nI j := by rw [nJ_Lle (by omega) (by decide)]; omega
    obtain ⟨σ1, s1, s2, s3, s4⟩ := takes_ok (c := 124) o (by omega) (by decide) hT e
    have s1 : f_X9_takes 10000 124 σ = _ := s1
    have hL1 := cqC_fr hL s4
    have iff := op1_is (op := opO) (k := 124) (n := 11) (fun c => rfl) (by decide) (T := T) (s := skp T a)
    unfold puL
    by_cases c : opT opO T (skp T a) = 0
    · have n1 : ¬ chr T (skp T a) = nI 124 := fun h => iff.mpr ((chr_is o (by decide)).mp h) c
      rw [if_neg n1] at s1 s2
      rw [if_pos c]
      refine ⟨σ1, 1, ?_, s3, s2, pLc_p s4, Or.inl ⟨rfl, rfl, by show cqC (L ++ []) σ1; rw [List.append_nil]; exact hL1⟩⟩
      rw [lp_out (y := σ1), lb_inr]
      · rfl
      · show f_X3_goOnCondition_L12 10000 rec p1 (nI j) σ = _
        unfold f_X3_goOnCondition_L12
        rw [if_neg tn, s1, cl_some, if_pos rfl]
    · have hlt := iff.mp c
      rw [if_pos ((chr_is o (by decide)).mpr hlt)] at s1 s2
      rw [if_neg c]
      have hcode : (20124 : Int32) = lwE (nI (opT opO T (skp T a)), 0) := by
        rw [(opT_lt c).2, hlt.2]; rfl
      obtain ⟨σ2, z, q1, q2, q3, q4, q5⟩ := hsX (skp T a + 1) σ1 L (by omega) s3 s2 hL1 (by omega)
      have q1 : (sg_cl (rec p1 σ1) fun v s => if v = 0 then some (vp_nar .boolean 0, s) else f_X3_goOnTruth 10000 rec p1 s) = some (z, σ2) := q1
      have q3 : σ2.1 1 2 = nI (puX T opA sub (skp T a + 1)).2.1 := q3
      have q5 : ((puX T opA sub (skp T a + 1)).1 = true ∧ z = 1 ∧ cqC (L ++ (puX T opA sub (skp T a + 1)).2.2.map lwE) σ2) ∨ ((puX T opA sub (skp T a + 1)).1 = false ∧ z = 0) := q5
      have g := hgX (skp T a + 1) (by omega)
      have F2 : Fr pLc σ σ2 := (pLc_p s4).tr q4
      have top : f_X3_goOnCondition_L12 10000 rec p1 (nI j) σ = (if z = 0 then some (.inl (vp_nar .boolean 0, σ2)) else (sg_cl (f_X3_emit 10000 (lwE (nI (opT opO T (skp T a)), 0)) σ2) fun v5 s6 => if v5 = 0 then some (.inl (vp_nar .boolean 0, s6)) else some (.inr (.inl (s6, nI (j + 1)))))) := by
        unfold f_X3_goOnCondition_L12
        rw [if_neg tn, s1, cl_some, if_neg nn10, hcode, nJ_addL]
        cases hr : rec p1 σ1 with
        | none => rw [hr] at q1; cases q1
        | some x =>
          obtain ⟨v, s⟩ := x
          rw [hr, cl_some] at q1
          rw [cl_some]
          by_cases hv : v = 0
          · rw [if_pos hv] at q1 ⊢
            have q1 : some ((0 : Int32), s) = some (z, σ2) := q1
            cases q1
            rw [if_pos rfl]
          · rw [if_neg hv] at q1 ⊢
            rw [q1, cl_some]
      rcases q5 with ⟨cc, hz, hL2⟩ | ⟨cc, hz⟩
      · have g2 := g.2 cc
        rw [if_pos cc]
        have hlen : (L ++ (puX T opA sub (skp T a + 1)).2.2.map lwE).length + 1 ≤ (puX T opA sub (skp T a + 1)).2.1 := by rw [List.length_append, List.length_map]; omega
        obtain ⟨σ3, e1, e2, e3, e4, e5⟩ := emit_C (x := lwE (nI (opT opO T (skp T a)), 0)) q2 q3 hL2 (by omega)
        rw [hz, if_neg nn10, e1, cl_some, if_neg nn10] at top
        obtain ⟨σ', z', r1, r2, r3, r4, r5⟩ := ih (puX T opA sub (skp T a + 1)).2.1 (j + 1) M σ3 _ (by omega) (by omega) (by omega) g.1 e2 e3 e5 (by rw [List.length_append, List.length_singleton]; omega)
        refine ⟨σ', z', ?_, r2, r3, (F2.tr e4).tr r4, ?_⟩
        · rw [lp_step (x' := (σ3, nI (j + 1))) top, r1]
        · rcases r5 with ⟨d, d2, d3⟩ | d
          · refine Or.inl ⟨d, d2, ?_⟩
            show cqC (L ++ ((puX T opA sub (skp T a + 1)).2.2 ++ ((nI (opT opO T (skp T a)), 0) :: (puL T opO (puX T opA sub) f (puX T opA sub (skp T a + 1)).2.1).2.2)).map lwE) σ'
            rw [List.map_append, List.map_cons]
            rw [List.append_assoc, List.append_assoc] at d3
            exact d3
          · exact Or.inr d
      · rw [if_neg (show ¬ (puX T opA sub (skp T a + 1)).1 = true by rw [cc]; decide)]
        rw [hz, if_pos rfl] at top
        refine ⟨σ2, 0, ?_, q2, q3, F2, Or.inr ⟨rfl, rfl⟩⟩
        rw [lp_ret top, lb_inl]
        rfl
/-- what goes on behind a first unit -/
def puG (T : Nat × (Nat → Nat)) (sub : Nat → PR) : Nat → PR := puB (puR T opA sub) (puR T opO (puX T opA sub))
theorem pgl_G {T : Nat × (Nat → Nat)} {sub : Nat → PR} (hg : pgl T 1 sub) : pgl T 0 (puG T sub) := pgl_B (pgl_R opA_ok hg) (pgl_R opO_ok (pgl_X opA_ok hg))
theorem gcC {T : Nat × (Nat → Nat)} {rec : Int32 → sgS → Option (Int32 × sgS)} {p1 : Int32} {sub : Nat → PR} (o : okT T) (hs : ImC T (fun σ => rec p1 σ) sub) (hg : pgl T 1 sub) : ImC T (fun σ => f_X3_goOnCondition 10000 rec p1 σ) (puG T sub) := by
  have h240 := o.1
  have hR : ImC T (fun s2 => sg_lb (sg_lp (fun x : sgS × Int32 => f_X3_goOnCondition_L12 10000 rec p1 x.2 x.1) 10000 ((s2, 0))) (fun r => some r) fun y11 => some (vp_nar .boolean 1, y11)) (puR T opO (puX T opA sub)) := by
    intro a σ L ha hT e hL hl
    exact ogC_lp o hs hg (T.1 + 1) a 0 10000 σ L (by omega) (by omega) (by omega) ha hT e hL hl
  exact ImC_B (agC o hs hg) hR (pgl_R opA_ok hg)
theorem rcC {T : Nat × (Nat → Nat)} {rec : Int32 → sgS → Option (Int32 × sgS)} {p1 : Int32} {sub : Nat → PR} (o : okT T) (hs : ImC T (fun σ => rec p1 σ) sub) (hg : pgl T 1 sub) : ImC T (fun σ => f_X3_readCondition 10000 rec p1 σ) (puX T opO (puX T opA sub)) :=
  ImC_eq (fun a => puB_assoc a) (ImC_B hs (ImC_1 (gcC o hs hg)) hg)
theorem isC_C {T : Nat × (Nat → Nat)} {s : Nat} {σ : sgS} (o : okT T) : f_X3_isComparison 10000 (chr T s) σ = some (if opT opC T s = 0 then 0 else 1) := by
  unfold f_X3_isComparison
  by_cases h1 : chr T s = 61
  · have h := (chr_is (c := 61) o (by decide)).mp h1
    rw [if_pos h1, if_neg (show ¬ opT opC T s = 0 by unfold opT; rw [if_pos h.1, h.2]; decide)]; rfl
  · rw [if_neg h1]
    by_cases h2 : chr T s = 60
    · have h := (chr_is (c := 60) o (by decide)).mp h2
      rw [if_pos h2, if_neg (show ¬ opT opC T s = 0 by unfold opT; rw [if_pos h.1, h.2]; decide)]; rfl
    · rw [if_neg h2]
      by_cases h3 : chr T s = 62
      · have h := (chr_is (c := 62) o (by decide)).mp h3
        rw [if_pos h3, if_neg (show ¬ opT opC T s = 0 by unfold opT; rw [if_pos h.1, h.2]; decide)]; rfl
      · rw [if_neg h3, if_pos]
        · rfl
        · unfold opT
          by_cases c : s < T.1
          · rw [if_pos c]
            unfold opC
            rw [if_neg (fun h => h1 ((chr_is (c := 61) o (by decide)).mpr ⟨c, h⟩)), if_neg (fun h => h2 ((chr_is (c := 60) o (by decide)).mpr ⟨c, h⟩)), if_neg (fun h => h3 ((chr_is (c := 62) o (by decide)).mpr ⟨c, h⟩))]
          · rw [if_neg c]
theorem opC_code {T : Nat × (Nat → Nat)} {s : Nat} (c : opT opC T s ≠ 0) : (20000 : Int32) + nI (T.2 s) = lwE (nI (opT opC T s), 0) ∧ (T.2 s = 61 ∧ opT opC T s = 6 ∨ T.2 s = 60 ∧ opT opC T s = 7 ∨ T.2 s = 62 ∧ opT opC T s = 8) := by
  have hlt := opT_lt c
  rw [hlt.2] at c ⊢
  unfold opC at c
  by_cases h1 : T.2 s = 61
  · rw [h1]; exact ⟨rfl, Or.inl ⟨rfl, rfl⟩⟩
  · rw [if_neg h1] at c
    by_cases h2 : T.2 s = 60
    · rw [h2]; exact ⟨rfl, Or.inr (Or.inl ⟨rfl, rfl⟩)⟩
    · rw [if_neg h2] at c
      by_cases h3 : T.2 s = 62
      · rw [h3]; exact ⟨rfl, Or.inr (Or.inr ⟨rfl, rfl⟩)⟩
      · rw [if_neg h3] at c; exact absurd rfl c
theorem cmC {T : Nat × (Nat → Nat)} {w : Nat} (o : okT T) (hw : w ≤ 6) : ImC T (fun σ => f_X3_goOnComparison 10000 (nI w) σ) (puC T w) := by
  intro a σ L ha hT e hL hl
  have h240 := o.1
  have hs0 := skp_le ha
  have hg0 := skp_ge (T := T) (a := a)
  obtain ⟨σ1, s1, s2, s3, s4⟩ := sign_ok o (by omega) hT e
  have hL1 := cqC_fr hL s4
  show ∃ σ' z, f_X3_goOnComparison 10000 (nI w) σ = some (z, σ') ∧ _
  unfold f_X3_goOnComparison puC
  rw [s1, cl_some, isC_C o, cr_some]
  by_cases c : opT opC T (skp T a) = 0
  · rw [if_pos c, if_pos c, if_pos rfl]
    exact ⟨σ1, _, rfl, s3, s2, pLc_p s4, Or.inr ⟨rfl, rfl⟩⟩
  · have hlt := opT_lt c
    rw [if_neg c, if_neg c, if_neg nn10, pf_eq, s2, nJ_addL, chr_y hlt.1, (opC_code c).1]
    have U := Fr_pt (σ := σ1) (i := 1) (k := 2) (v := nI (skp T a + 1))
    obtain ⟨σ2, z, q1, q2, q3, q4, q5⟩ := smC o 40 w hw (by omega) (skp T a + 1) (sg_up σ1 1 2 (nI (skp T a + 1))) L (by omega) (tqC_up s3) up_at (cqC_fr hL1 U) (by omega)
    have q1 : f_X3_readSum 40 10000 (nI w) (sg_up σ1 1 2 (nI (skp T a + 1))) = some (z, σ2) := q1
    have g := pgl_S (T := T) 40 w (by omega) (skp T a + 1) (by omega)
    rw [q1, cl_some]
    rcases q5 with ⟨cc, hz, hL2⟩ | ⟨cc, hz⟩
    · have g2 := g.2 cc
      have hlen : (L ++ (puS T 40 w (skp T a + 1)).2.2.map lwE).length + 1 ≤ (puS T 40 w (skp T a + 1)).2.1 := by rw [List.length_append, List.length_map]; omega
      obtain ⟨σ3, e1, e2, e3, e4, e5⟩ := emit_C (x := lwE (nI (opT opC T (skp T a)), 0)) q2 q3 hL2 (by omega)
      rw [hz, if_neg nn10, e1, cl_some, if_neg nn10, if_pos cc]
      refine ⟨σ3, _, rfl, e2, e3, ((pLc_p (s4.tr U)).tr q4).tr e4, Or.inl ⟨rfl, rfl, ?_⟩⟩
      show cqC (L ++ ((puS T 40 w (skp T a + 1)).2.2 ++ [(nI (opT opC T (skp T a)), 0)]).map lwE) σ3
      rw [List.map_append, ← List.append_assoc]
      exact e5
    · rw [hz, if_pos rfl, if_neg (show ¬ (puS T 40 w (skp T a + 1)).1 = true by rw [cc]; decide)]
      exact ⟨σ2, _, rfl, q2, q3, (pLc_p (s4.tr U)).tr q4, Or.inr ⟨rfl, rfl⟩⟩
theorem unC {T : Nat × (Nat → Nat)} (o : okT T) : ∀ d w, w ≤ 6 → 6 < d + w → ImC T (fun σ => f_X3_readUnit d 10000 (nI w) σ) (puU T d w) := by
  have h240 := o.1
  intro d
  induction d with
  | zero => intro w h1 h2; omega
  | succ d ih =>
    intro w h1 h2 a σ L ha hT e hL hl
    have hs0 := skp_le ha
    have hg0 := skp_ge (T := T) (a := a)
    obtain ⟨σ1, s1, s2, s3, s4⟩ := sign_ok o (by omega) hT e
    have hL1 := cqC_fr hL s4
    have U := Fr_pt (σ := σ1) (i := 1) (k := 2) (v := nI (skp T a + 1))
    show ∃ σ' z, f_X3_readUnit_b 10000 (f_X3_readUnit d 10000) (nI w) σ = some (z, σ') ∧ _
    unfold f_X3_readUnit_b puU
    rw [s1, cl_some]
    have notis : ∀ c, c < 1000 → ¬ isT c T (skp T a) = true → ¬ chr T (skp T a) = nI c := fun c hc h h2 => h (by unfold isT; exact decide_eq_true ((chr_is o (by omega)).mp h2))
    by_cases c1 : isT 33 T (skp T a) = true
    · have hi := isT_lt c1
      have hch : chr T (skp T a) = 33 := (chr_is (c := 33) o (by decide)).mpr hi
      rw [if_pos c1, hch, if_pos rfl]
      unfold f_X3_readUnit_b_B42
      by_cases c6 : w < 6
      · rw [if_pos (by rw [nJ_ltL (by omega) (by decide)]; exact c6), if_pos c6, pf_eq, if_pos rfl, s2, nJ_addL, nJ_addL]
        obtain ⟨σ2, z, q1, q2, q3, q4, q5⟩ := ih (w + 1) (by omega) (by omega) (skp T a + 1) (sg_up σ1 1 2 (nI (skp T a + 1))) L (by omega) (tqC_up s3) up_at (cqC_fr hL1 U) (by omega)
        have q1 : f_X3_readUnit d 10000 (nI (w + 1)) (sg_up σ1 1 2 (nI (skp T a + 1))) = some (z, σ2) := q1
        have g := pgl_U (T := T) d (w + 1) (by omega) (skp T a + 1) (by omega)
        rw [q1, cl_some]
        unfold puN
        rcases q5 with ⟨cc, hz, hL2⟩ | ⟨cc, hz⟩
        · have g2 := g.2 cc
          have hlen : (L ++ (puU T d (w + 1) (skp T a + 1)).2.2.map lwE).length + 1 ≤ (puU T d (w + 1) (skp T a + 1)).2.1 := by rw [List.length_append, List.length_map]; omega
          obtain ⟨σ3, e1, e2, e3, e4, e5⟩ := emit_C (x := 20033) q2 q3 hL2 (by omega)
          rw [hz, if_neg nn10, e1, cl_some, if_neg nn10, if_pos cc]
          refine ⟨σ3, _, rfl, e2, e3, ((pLc_p (s4.tr U)).tr q4).tr e4, Or.inl ⟨rfl, rfl, ?_⟩⟩
          show cqC (L ++ ((puU T d (w + 1) (skp T a + 1)).2.2 ++ [(9, 0)]).map lwE) σ3
          rw [List.map_append, ← List.append_assoc]
          exact e5
        · rw [hz, if_pos rfl, if_neg (show ¬ (puU T d (w + 1) (skp T a + 1)).1 = true by rw [cc]; decide)]
          exact ⟨σ2, _, rfl, q2, q3, (pLc_p (s4.tr U)).tr q4, Or.inr ⟨rfl, rfl⟩⟩
      · rw [if_neg (by rw [nJ_ltL (by omega) (by decide)]; exact c6), if_neg c6]
        exact ⟨σ1, _, rfl, s3, s2, pLc_p s4, Or.inr ⟨rfl, rfl⟩⟩
    · rw [if_neg c1, if_neg (show ¬ chr T (skp T a) = 33 from notis 33 (by decide) c1)]
      by_cases c2 : isT 40 T (skp T a) = true
      · have hi := isT_lt c2
        have hch : chr T (skp T a) = 40 := (chr_is (c := 40) o (by decide)).mpr hi
        rw [if_pos c2, hch, if_pos rfl]
        unfold f_X3_readUnit_b_B42
        by_cases c6 : w < 6
        · rw [if_pos (by rw [nJ_ltL (by omega) (by decide)]; exact c6), if_pos c6, pf_eq, if_neg (by decide), s2, nJ_addL, nJ_addL]
          have gU := pgl_U (T := T) d (w + 1) (by omega)
          have hB := ImC_B (rcC (rec := f_X3_readUnit d 10000) (p1 := nI (w + 1)) o (ih (w + 1) (by omega) (by omega)) gU) (ImC_1 (ImC_E (c := 41) o (by decide))) (pgl_X opO_ok (pgl_X opA_ok gU))
          obtain ⟨σ2, z, q1, q2, q3, q4, q5⟩ := hB (skp T a + 1) (sg_up σ1 1 2 (nI (skp T a + 1))) L (by omega) (tqC_up s3) up_at (cqC_fr hL1 U) (by omega)
          exact ⟨σ2, z, q1, q2, q3, (pLc_p (s4.tr U)).tr q4, q5⟩
        · rw [if_neg (by rw [nJ_ltL (by omega) (by decide)]; exact c6), if_neg c6]
          exact ⟨σ1, _, rfl, s3, s2, pLc_p s4, Or.inr ⟨rfl, rfl⟩⟩
      · rw [if_neg c2, if_neg (show ¬ chr T (skp T a) = 40 from notis 40 (by decide) c2)]
        have hB := ImC_B (smC o 40 w h1 (by omega)) (ImC_1 (cmC (w := w) o h1)) (pgl_S (T := T) 40 w (by omega))
        obtain ⟨σ2, z, q1, q2, q3, q4, q5⟩ := hB (skp T a) σ1 L hs0 s3 s2 hL1 (by omega)
        exact ⟨σ2, z, q1, q2, q3, (pLc_p s4).tr q4, q5⟩
