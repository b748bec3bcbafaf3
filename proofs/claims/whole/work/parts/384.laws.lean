/-! CLAUSES OF A LAW -/
abbrev PQ : Type := Bool × Nat × (List (Int32 × Int32) × List (Int32 × Int32))
def puY (T : Nat × (Nat → Nat)) : Nat → PR := puB (puE T 121) (puE T 58)
def puV (T : Nat × (Nat → Nat)) : Nat → PR := puB (puE T 63) (puS T 40 0)
def puZ (T : Nat × (Nat → Nat)) (t : Nat → PR) (b : Nat) : PQ := if (t b).1 = true then ((puV T (t b).2.1).1, (puV T (t b).2.1).2.1, ((t b).2.2, (puV T (t b).2.1).2.2)) else (false, (t b).2.1, ([], []))
def puT1 (T : Nat × (Nat → Nat)) : Nat → PR := puX T opO (puX T opA (puU T 40 0))
def puT2 (T : Nat × (Nat → Nat)) : Nat → PR := puB (puS T 40 0) (puB (puC T 0) (puG T (puU T 40 0)))
def puQ (T : Nat × (Nat → Nat)) (a : Nat) : PQ := if (puY T a).1 = true then (if isT 33 T (skp T (puY T a).2.1) = true ∨ isT 40 T (skp T (puY T a).2.1) = true then puZ T (puT1 T) (skp T (puY T a).2.1) else if (puS T 40 0 (skp T (puY T a).2.1)).1 = true ∧ opT opC T (skp T (puS T 40 0 (skp T (puY T a).2.1)).2.1) = 0 then (true, skp T (puS T 40 0 (skp T (puY T a).2.1)).2.1, ([], (puS T 40 0 (skp T (puY T a).2.1)).2.2)) else puZ T (puT2 T) (skp T (puY T a).2.1)) else (false, (puY T a).2.1, ([], []))
theorem pgl_T1 {T : Nat × (Nat → Nat)} : pgl T 1 (puT1 T) := pgl_X opO_ok (pgl_X opA_ok (pgl_U 40 0 (by decide)))
theorem pgl_T2 {T : Nat × (Nat → Nat)} : pgl T 1 (puT2 T) := pgl_B (pgl_S 40 0 (by decide)) (pgl_0 (pgl_B pgl_C (pgl_G (pgl_U 40 0 (by decide)))))
theorem ty_T1 {T : Nat × (Nat → Nat)} {a : Nat} (ha : a ≤ T.1) (h : (puT1 T a).1 = true) : lwTy (puT1 T a).2.2 [] = some [true] :=
  ty_X opO_ty (pgl_X opA_ok (pgl_U 40 0 (by decide))) (ty_X opA_ty (pgl_U 40 0 (by decide)) (ty_U 40 0 (by decide))) a ha h [] (by decide)
theorem ty_T2 {T : Nat × (Nat → Nat)} {a : Nat} (ha : a ≤ T.1) (h : (puT2 T a).1 = true) : lwTy (puT2 T a).2.2 [] = some [true] := by
  have gU := pgl_U (T := T) 40 0 (by decide)
  have tU := ty_U (T := T) 40 0 (by decide)
  have gS := pgl_S (T := T) 40 0 (by decide)
  unfold puT2 puB at h ⊢
  by_cases c : (puS T 40 0 a).1 = true
  · rw [if_pos c] at h ⊢
    have hS := gS a ha
    show lwTy ((puS T 40 0 a).2.2 ++ _) [] = _
    rw [lwTy_app _ _ _ _ (ty_S 40 0 (by decide) a ha c [] (by decide))]
    by_cases d : (puC T 0 (puS T 40 0 a).2.1).1 = true
    · rw [if_pos d] at h ⊢
      have hC := pgl_C (w := 0) (puS T 40 0 a).2.1 hS.1
      show lwTy ((puC T 0 (puS T 40 0 a).2.1).2.2 ++ _) [false] = _
      rw [lwTy_app _ _ _ _ (ty_C d [] (by decide))]
      have h : (puG T (puU T 40 0) (puC T 0 (puS T 40 0 a).2.1).2.1).1 = true := h
      unfold puG puB at h ⊢
      by_cases g : (puR T opA (puU T 40 0) (puC T 0 (puS T 40 0 a).2.1).2.1).1 = true
      · rw [if_pos g] at h ⊢
        have hR := pgl_R opA_ok gU (puC T 0 (puS T 40 0 a).2.1).2.1 hC.1
        show lwTy ((puR T opA (puU T 40 0) (puC T 0 (puS T 40 0 a).2.1).2.1).2.2 ++ _) [true] = _
        have e1 : lwTy (puR T opA (puU T 40 0) (puC T 0 (puS T 40 0 a).2.1).2.1).2.2 [true] = some [true] := ty_L opA_ty gU tU _ _ hC.1 g [] (by decide)
        rw [lwTy_app _ _ _ _ e1]
        exact ty_L opO_ty (pgl_X opA_ok gU) (ty_X opA_ty gU tU) _ _ hR.1 h [] (by decide)
      · rw [if_neg g] at h; cases h
    · rw [if_neg d] at h; cases h
  · rw [if_neg c] at h; cases h
def okQl (q : List (Int32 × Int32) × List (Int32 × Int32)) : Prop := (∀ z ∈ q.1, lwI z) ∧ (∀ z ∈ q.2, lwI z) ∧ (q.1 ≠ [] → lwTy q.1 [] = some [true]) ∧ lwTy q.2 [] = some [false]
theorem pgl_V {T : Nat × (Nat → Nat)} : pgl T 1 (puV T) := pgl_B pgl_E (pgl_0 (pgl_S 40 0 (by decide)))
theorem puV_s {T : Nat × (Nat → Nat)} {a : Nat} (ha : a ≤ T.1) (h : (puV T a).1 = true) : (∀ z ∈ (puV T a).2.2, lwI z) ∧ lwTy (puV T a).2.2 [] = some [false] ∧ (puV T a).2.2.length + 1 + a ≤ (puV T a).2.1 := by
  have hg := (pgl_V a ha).2 h
  refine ⟨hg.2.2, ?_⟩
  unfold puV puB at h ⊢
  have hE := pgl_E (c := 63) a ha
  by_cases c : (puE T 63 a).1 = true
  · rw [if_pos c] at h ⊢
    have e0 : (puE T 63 a).2.2 = [] := by unfold puE; split <;> rfl
    show lwTy ((puE T 63 a).2.2 ++ (puS T 40 0 (puE T 63 a).2.1).2.2) [] = _ ∧ ((puE T 63 a).2.2 ++ (puS T 40 0 (puE T 63 a).2.1).2.2).length + 1 + a ≤ (puS T 40 0 (puE T 63 a).2.1).2.1
    rw [e0, List.nil_append]
    have := (pgl_S (T := T) 40 0 (by decide) (puE T 63 a).2.1 hE.1).2 h
    exact ⟨ty_S 40 0 (by decide) _ hE.1 h [] (by decide), by have := (hE.2 c).1; omega⟩
  · rw [if_neg c] at h; cases h
theorem lwCl_len {x y : List (Int32 × Int32)} : (lwCl (x, y)).length ≤ x.length + y.length + 2 ∧ (x = [] → (lwCl (x, y)).length = y.length + 1) := by
  unfold lwCl
  by_cases c : x = []
  · rw [if_pos c, c]
    simp only [List.nil_append, List.length_append, List.length_map, List.length_singleton, List.length_nil]
    exact ⟨by omega, fun _ => by omega⟩
  · rw [if_neg c]
    simp only [List.length_append, List.length_map, List.length_singleton]
    exact ⟨by omega, fun h => absurd h c⟩
theorem puZ_ok {T : Nat × (Nat → Nat)} {t : Nat → PR} {b : Nat} (hb : b ≤ T.1) (gt : pgl T 1 t) (tt : ∀ a, a ≤ T.1 → (t a).1 = true → lwTy (t a).2.2 [] = some [true]) : (puZ T t b).2.1 ≤ T.1 ∧ ((puZ T t b).1 = true → b + 1 ≤ (puZ T t b).2.1 ∧ (lwCl (puZ T t b).2.2).length + b ≤ (puZ T t b).2.1 + 1 ∧ okQl (puZ T t b).2.2) := by
  unfold puZ
  have h1 := gt b hb
  by_cases c : (t b).1 = true
  · rw [if_pos c]
    have h2 := h1.2 c
    have h3 := pgl_V (t b).2.1 h1.1
    refine ⟨h3.1, fun h => ?_⟩
    have h4 := h3.2 h
    have h5 := puV_s h1.1 h
    refine ⟨by show b + 1 ≤ (puV T (t b).2.1).2.1; omega, ?_, h2.2.2, h5.1, fun _ => tt b hb c, h5.2.1⟩
    have := (lwCl_len (x := (t b).2.2) (y := (puV T (t b).2.1).2.2)).1
    show (lwCl ((t b).2.2, (puV T (t b).2.1).2.2)).length + b ≤ (puV T (t b).2.1).2.1 + 1
    omega
  · rw [if_neg c]
    exact ⟨h1.1, (fun h => by cases h)⟩
theorem puY_ok {T : Nat × (Nat → Nat)} {a : Nat} (ha : a ≤ T.1) : (puY T a).2.1 ≤ T.1 ∧ ((puY T a).1 = true → a + 2 ≤ (puY T a).2.1) := by
  unfold puY puB
  have h1 := pgl_E (c := 121) a ha
  by_cases c : (puE T 121 a).1 = true
  · rw [if_pos c]
    have h2 := pgl_E (c := 58) (puE T 121 a).2.1 h1.1
    exact ⟨h2.1, fun h => by have := (h1.2 c).1; have := (h2.2 h).1; show a + 2 ≤ (puE T 58 (puE T 121 a).2.1).2.1; omega⟩
  · rw [if_neg c]
    exact ⟨h1.1, (fun h => by cases h)⟩
theorem puQ_ok {T : Nat × (Nat → Nat)} {a : Nat} (ha : a ≤ T.1) : (puQ T a).2.1 ≤ T.1 ∧ ((puQ T a).1 = true → a + 3 ≤ (puQ T a).2.1 ∧ (lwCl (puQ T a).2.2).length + a ≤ (puQ T a).2.1 ∧ okQl (puQ T a).2.2) := by
  have hY := puY_ok ha
  unfold puQ
  by_cases c : (puY T a).1 = true
  · rw [if_pos c]
    have h2 := hY.2 c
    have hb := skp_le hY.1
    have hg := skp_ge (T := T) (a := (puY T a).2.1)
    by_cases c1 : isT 33 T (skp T (puY T a).2.1) = true ∨ isT 40 T (skp T (puY T a).2.1) = true
    · rw [if_pos c1]
      have h := puZ_ok hb pgl_T1 (fun a ha h => ty_T1 ha h)
      exact ⟨h.1, fun hk => by have := h.2 hk; exact ⟨by omega, by omega, this.2.2⟩⟩
    · rw [if_neg c1]
      by_cases c2 : (puS T 40 0 (skp T (puY T a).2.1)).1 = true ∧ opT opC T (skp T (puS T 40 0 (skp T (puY T a).2.1)).2.1) = 0
      · rw [if_pos c2]
        have hS := pgl_S (T := T) 40 0 (by decide) (skp T (puY T a).2.1) hb
        have hS2 := hS.2 c2.1
        have hg2 := skp_ge (T := T) (a := (puS T 40 0 (skp T (puY T a).2.1)).2.1)
        refine ⟨skp_le hS.1, fun _ => ⟨by show a + 3 ≤ skp T (puS T 40 0 (skp T (puY T a).2.1)).2.1; omega, ?_, fun z hz => (by cases hz), hS2.2.2, fun h => absurd rfl h, ty_S 40 0 (by decide) _ hb c2.1 [] (by decide)⟩⟩
        show (lwCl ([], (puS T 40 0 (skp T (puY T a).2.1)).2.2)).length + a ≤ skp T (puS T 40 0 (skp T (puY T a).2.1)).2.1
        rw [lwCl_len.2 rfl]
        omega
      · rw [if_neg c2]
        have h := puZ_ok hb pgl_T2 (fun a ha h => ty_T2 ha h)
        exact ⟨h.1, fun hk => by have := h.2 hk; exact ⟨by omega, by omega, this.2.2⟩⟩
  · rw [if_neg c]
    exact ⟨hY.1, (fun h => by cases h)⟩
/-! and in a row -/
def lwW (T : Nat × (Nat → Nat)) : Nat → Nat → Bool × Nat × List (List (Int32 × Int32) × List (Int32 × Int32))
  | 0, a => (false, a, [])
  | f + 1, a => if (puQ T a).1 = true then (if T.1 ≤ skp T (puQ T a).2.1 then (true, skp T (puQ T a).2.1, [(puQ T a).2.2]) else if T.2 (skp T (puQ T a).2.1) = 59 then ((lwW T f (skp T (puQ T a).2.1 + 1)).1, (lwW T f (skp T (puQ T a).2.1 + 1)).2.1, (puQ T a).2.2 :: (lwW T f (skp T (puQ T a).2.1 + 1)).2.2) else (false, skp T (puQ T a).2.1, [])) else (false, (puQ T a).2.1, [])
theorem lwW_ok {T : Nat × (Nat → Nat)} : ∀ f a, T.1 - a < f → a ≤ T.1 → (lwW T f a).2.1 ≤ T.1 ∧ ((lwW T f a).1 = true → 3 * (lwW T f a).2.2.length + a ≤ T.1 ∧ (lwCode (lwW T f a).2.2).length + a ≤ T.1 ∧ ∀ q ∈ (lwW T f a).2.2, okQl q) := by
  intro f
  induction f with
  | zero => intro a h; omega
  | succ f ih =>
    intro a h1 ha
    have hQ := puQ_ok ha
    unfold lwW
    by_cases c : (puQ T a).1 = true
    · rw [if_pos c]
      have h2 := hQ.2 c
      have hl := skp_le hQ.1
      have hg := skp_ge (T := T) (a := (puQ T a).2.1)
      by_cases c1 : T.1 ≤ skp T (puQ T a).2.1
      · rw [if_pos c1]
        refine ⟨hl, fun _ => ⟨by show 3 * 1 + a ≤ T.1; omega, ?_, fun q hq => ?_⟩⟩
        · show (lwCode [(puQ T a).2.2]).length + a ≤ T.1
          rw [show lwCode [(puQ T a).2.2] = lwCl (puQ T a).2.2 ++ [] from rfl, List.append_nil]
          omega
        · rw [List.mem_singleton.mp hq]; exact h2.2.2
      · rw [if_neg c1]
        by_cases c2 : T.2 (skp T (puQ T a).2.1) = 59
        · rw [if_pos c2]
          have h3 := ih (skp T (puQ T a).2.1 + 1) (by omega) (by omega)
          refine ⟨h3.1, fun h => ?_⟩
          have h4 := h3.2 h
          refine ⟨?_, ?_, fun q hq => ?_⟩
          · show 3 * ((lwW T f (skp T (puQ T a).2.1 + 1)).2.2.length + 1) + a ≤ T.1
            omega
          · show (lwCode ((puQ T a).2.2 :: (lwW T f (skp T (puQ T a).2.1 + 1)).2.2)).length + a ≤ T.1
            rw [show lwCode ((puQ T a).2.2 :: (lwW T f (skp T (puQ T a).2.1 + 1)).2.2) = lwCl (puQ T a).2.2 ++ lwCode (lwW T f (skp T (puQ T a).2.1 + 1)).2.2 from rfl, List.length_append]
            omega
          · rcases List.mem_cons.mp hq with hq | hq
            · rw [hq]; exact h2.2.2
            · exact h4.2.2 q hq
        · rw [if_neg c2]
          exact ⟨hl, (fun h => by cases h)⟩
    · rw [if_neg c]
      exact ⟨hQ.1, (fun h => by cases h)⟩
def lwRd (T : Nat × (Nat → Nat)) : Bool × Nat × List (List (Int32 × Int32) × List (Int32 × Int32)) := lwW T (T.1 + 1) 0
theorem lwRd_ok {T : Nat × (Nat → Nat)} (o : okT T) : (lwRd T).2.1 ≤ T.1 ∧ ((lwRd T).1 = true → okLaw (lwRd T).2.2) := by
  have h240 := o.1
  have := lwW_ok (T := T) (T.1 + 1) 0 (by omega) (Nat.zero_le _)
  refine ⟨this.1, fun h => ?_⟩
  have h2 := this.2 h
  have h3 : 3 * (lwRd T).2.2.length + 0 ≤ T.1 := h2.1
  have h4 : (lwCode (lwRd T).2.2).length + 0 ≤ T.1 := h2.2.1
  exact ⟨by omega, by omega, h2.2.2⟩
/-! the class -/
theorem wtC {T : Nat × (Nat → Nat)} {b : Nat} {σ : sgS} {L : List Int32} (o : okT T) (hb : b ≤ T.1) (hT : tqC T σ) (e : σ.1 1 2 = nI b) (hL : cqC L σ) (hl : L.length + 1 ≤ b) : ∃ σ' z, f_X3_readWorth 10000 σ = some (z, σ') ∧ tqC T σ' ∧ σ'.1 1 2 = nI (puV T b).2.1 ∧ Fr pLc σ σ' ∧ (((puV T b).1 = true ∧ z = 1 ∧ cqC (L ++ [20063] ++ (puV T b).2.2.map lwE ++ [20059]) σ') ∨ ((puV T b).1 = false ∧ z = 0)) := by
  have h240 := o.1
  obtain ⟨σ1, z1, q1, q2, q3, q4, q5⟩ := ImC_E (c := 63) o (by decide) b σ L hb hT e hL (by omega)
  have q1 : f_X9_takes 10000 63 σ = some (z1, σ1) := q1
  have hE := pgl_E (c := 63) b hb
  unfold f_X3_readWorth
  rw [q1, cl_some]
  unfold puV puB
  rcases q5 with ⟨c, hz, hL1⟩ | ⟨c, hz⟩
  · have e0 : (puE T 63 b).2.2 = [] := by unfold puE; split <;> rfl
    have hE2 := hE.2 c
    rw [e0] at hL1
    have hL1 : cqC (L ++ []) σ1 := hL1
    rw [List.append_nil] at hL1
    rw [hz, if_neg nn10, if_pos c, e0, List.nil_append]
    obtain ⟨σ2, e1, e2, e3, e4, e5⟩ := emit_C (x := 20063) q2 q3 hL1 (by omega)
    rw [e1, cl_some, if_neg nn10]
    obtain ⟨σ3, z3, r1, r2, r3, r4, r5⟩ := smC o 40 0 (by decide) (by decide) (puE T 63 b).2.1 σ2 _ hE.1 e2 e3 e5 (by rw [List.length_append, List.length_singleton]; omega)
    have r1 : f_X3_readSum 40 10000 0 σ2 = some (z3, σ3) := r1
    have hS := pgl_S (T := T) 40 0 (by decide) (puE T 63 b).2.1 hE.1
    rw [r1, cl_some]
    rcases r5 with ⟨d, hz3, hL3⟩ | ⟨d, hz3⟩
    · have hS2 := hS.2 d
      obtain ⟨σ4, t1, t2, t3, t4, t5⟩ := emit_C (x := 20059) r2 r3 hL3 (by rw [List.length_append, List.length_append, List.length_singleton, List.length_map]; omega)
      rw [hz3, if_neg nn10, t1, cl_some, if_neg nn10]
      exact ⟨σ4, _, rfl, t2, t3, ((q4.tr e4).tr r4).tr t4, Or.inl ⟨d, rfl, t5⟩⟩
    · rw [hz3, if_pos rfl]
      exact ⟨σ3, _, rfl, r2, r3, (q4.tr e4).tr r4, Or.inr ⟨d, rfl⟩⟩
  · rw [hz, if_pos rfl, if_neg (show ¬ (puE T 63 b).1 = true by rw [c]; decide)]
    exact ⟨σ1, _, rfl, q2, q3, q4, Or.inr ⟨rfl, rfl⟩⟩
theorem zC {T : Nat × (Nat → Nat)} {t : Nat → PR} {F : sgS → Option (Int32 × sgS)} {b : Nat} {σ : sgS} {L : List Int32} (o : okT T) (hF : ImC T F t) (gt : pgl T 1 t) (tt : ∀ a, a ≤ T.1 → (t a).1 = true → lwTy (t a).2.2 [] = some [true]) (hb : b ≤ T.1) (hT : tqC T σ) (e : σ.1 1 2 = nI b) (hL : cqC L σ) (hl : L.length + 1 ≤ b) : ∃ σ' z, (sg_cl (F σ) fun v s => if v = 0 then some (vp_nar .boolean 0, s) else sg_cl (f_X3_readWorth 10000 s) fun v2 s2 => if v2 = 0 then some (vp_nar .boolean 0, s2) else some (vp_nar .boolean 1, s2)) = some (z, σ') ∧ tqC T σ' ∧ σ'.1 1 2 = nI (puZ T t b).2.1 ∧ Fr pLc σ σ' ∧ (((puZ T t b).1 = true ∧ z = 1 ∧ cqC (L ++ lwCl (puZ T t b).2.2) σ') ∨ ((puZ T t b).1 = false ∧ z = 0)) := by
  obtain ⟨σ1, z1, q1, q2, q3, q4, q5⟩ := hF b σ L hb hT e hL (by omega)
  have h1 := gt b hb
  rw [q1, cl_some]
  unfold puZ
  rcases q5 with ⟨c, hz, hL1⟩ | ⟨c, hz⟩
  · have h2 := h1.2 c
    rw [hz, if_neg nn10, if_pos c]
    obtain ⟨σ2, z2, r1, r2, r3, r4, r5⟩ := wtC o h1.1 q2 q3 hL1 (by rw [List.length_append, List.length_map]; omega)
    rw [r1, cl_some]
    rcases r5 with ⟨d, hz2, hL2⟩ | ⟨d, hz2⟩
    · rw [hz2, if_neg nn10]
      refine ⟨σ2, _, rfl, r2, r3, q4.tr r4, Or.inl ⟨d, rfl, ?_⟩⟩
      have hne : (t b).2.2 ≠ [] := fun h => by
        have := tt b hb c
        rw [h] at this
        cases this
      show cqC (L ++ ((if (t b).2.2 = [] then [] else (t b).2.2.map lwE ++ [20063]) ++ (puV T (t b).2.1).2.2.map lwE ++ [20059])) σ2
      rw [if_neg hne]
      rw [List.append_assoc, List.append_assoc, List.append_assoc] at hL2
      rw [List.append_assoc, List.append_assoc]
      exact hL2
    · rw [hz2, if_pos rfl]
      exact ⟨σ2, _, rfl, r2, r3, q4.tr r4, Or.inr ⟨d, rfl⟩⟩
  · rw [hz, if_pos rfl, if_neg (show ¬ (t b).1 = true by rw [c]; decide)]
    exact ⟨σ1, _, rfl, q2, q3, q4, Or.inr ⟨rfl, rfl⟩⟩
