/-! runs of items -/
def At (code : List Int32) (i : Nat) (l : List Int32) : Prop := ∀ k, k < l.length → code.getD (i + k) 0 = l.getD k 0
theorem At_cons {code : List Int32} {i : Nat} {a : Int32} {l : List Int32} (h : At code i (a :: l)) : code.getD i 0 = a ∧ At code (i + 1) l := by
  refine ⟨h 0 (Nat.succ_pos _), fun k hk => ?_⟩
  have := h (k + 1) (Nat.succ_lt_succ hk)
  rw [show i + (k + 1) = i + 1 + k by omega] at this
  exact this
theorem At_app {code : List Int32} {i : Nat} {l l' : List Int32} (h : At code i (l ++ l')) : At code i l ∧ At code (i + l.length) l' := by
  refine ⟨fun k hk => ?_, fun k hk => ?_⟩
  · rw [h k (by rw [List.length_append]; omega), List.getD_eq_getElem?_getD, List.getD_eq_getElem?_getD, List.getElem?_append_left hk]
  · rw [show i + l.length + k = i + (l.length + k) by omega, h (l.length + k) (by rw [List.length_append]; omega), List.getD_eq_getElem?_getD, List.getD_eq_getElem?_getD, List.getElem?_append_right (by omega), Nat.add_sub_cancel_left]
theorem lwTy_ok {L : Nat → Int32} (hL : ∀ v, v < 6 → okv false (L v)) : ∀ (seg : List (Int32 × Int32)) (t t' : List Bool) (st : List Int32), (∀ q ∈ seg, lwI q) → lwTy seg t = some t' → TyOk t st → TyOk t' (lwEv L seg st) := by
  intro seg
  induction seg with
  | nil => intro t t' st _ h hT; cases h; exact hT
  | cons q seg ih =>
    intro t t' st hq h hT
    have h : (match lwTy1 q t with | none => none | some t' => lwTy seg t') = some t' := h
    cases h1 : lwTy1 q t with
    | none => rw [h1] at h; cases h
    | some t1 =>
      rw [h1] at h
      exact ih t1 t' _ (fun z hz => hq z (List.mem_cons_of_mem _ hz)) h (lwTy1_ok hL (hq q List.mem_cons_self) h1 hT).1
theorem c_seg {N h n : Nat} {code : List Int32} {L : Nat → Int32} (hL : ∀ v, v < 6 → okv false (L v)) : ∀ (seg : List (Int32 × Int32)) (t t' : List Bool) (st : List Int32) (i M : Nat) (σ : sgS), CWx h n code L σ → At code i (seg.map lwE) → i + seg.length ≤ n → (∀ q ∈ seg, lwI q) → lwTy seg t = some t' → TyOk t st → t.length ≤ 70 → CSt st σ →
    ∃ σ', sg_lp (fun x => f_X4_worth_L29 N 50 6 h x.2.1 x.2.2 x.1) (M + seg.length) ((σ, 0, nI i)) = sg_lp (fun x => f_X4_worth_L29 N 50 6 h x.2.1 x.2.2 x.1) M ((σ', 0, nI (i + seg.length))) ∧ CSt (lwEv L seg st) σ' ∧ Fr stkC σ σ' := by
  intro seg
  induction seg with
  | nil => intro t t' st i M σ H _ _ _ _ _ _ hst; exact ⟨σ, rfl, hst, Fr.rf⟩
  | cons q seg ih =>
    intro t t' st i M σ H ha hn hq h hT h70 hst
    have h : (match lwTy1 q t with | none => none | some t' => lwTy seg t') = some t' := h
    have hn : i + (seg.length + 1) ≤ n := hn
    obtain ⟨a1, a2⟩ := At_cons (a := lwE q) (l := seg.map lwE) ha
    cases h1 : lwTy1 q t with
    | none => rw [h1] at h; cases h
    | some t1 =>
      rw [h1] at h
      have hq1 := hq q List.mem_cons_self
      obtain ⟨σ1, e1, s1, f1⟩ := c_item (N := N) H (by omega) a1 hq1 h1 hT h70 hst
      have hT1 := lwTy1_ok (L := L) hL hq1 h1 hT
      obtain ⟨σ2, e2, s2, f2⟩ := ih t1 t' (lwSt L q st) (i + 1) M σ1 (CWx_fr H f1) a2 (by omega) (fun z hz => hq z (List.mem_cons_of_mem _ hz)) h hT1.1 (hT1.2 h70) s1
      refine ⟨σ2, ?_, s2, f1.tr f2⟩
      show sg_lp _ (M + seg.length + 1) _ = _
      rw [lp_step e1, e2, show i + 1 + seg.length = i + (seg.length + 1) by omega]
      rfl
theorem lwE_ne {q : Int32 × Int32} (h : lwI q) : lwE q ≠ 20059 := by
  obtain ⟨c, v⟩ := q
  rcases h with ⟨e, v', hv, e2⟩ | ⟨e, v', hv, e2⟩ | ⟨c', h2, h11, e⟩
  · have e : c = 0 := e
    have e2 : v = nI v' := e2
    subst e e2
    rw [lwE_num hv]
    intro hc
    rw [nJ_eqL (by omega) (by decide)] at hc
    omega
  · have e : c = 1 := e
    have e2 : v = nI v' := e2
    subst e e2
    rw [lwE_let]
    intro hc
    rw [nJ_eqL (by omega) (by decide)] at hc
    omega
  · have e : c = nI c' := e
    subst e
    obtain ⟨ee, b1, b2, b3, b4, b5, be⟩ := lwE_sgn (v := v) h2 h11
    rw [be]
    intro hc
    rw [nJ_eqL (by omega) (by decide)] at hc
    exact b3 hc
/-- past what does not hold -/
theorem c_skip {N h n : Nat} {code : List Int32} {L : Nat → Int32} : ∀ (l : List Int32) (i M : Nat) (σ : sgS), CWx h n code L σ → At code i (l ++ [20059]) → i + l.length + 1 ≤ n → (∀ z ∈ l, z ≠ 20059) →
    sg_lp (fun x => f_X4_worth_L29 N 50 6 h x.2.1 x.2.2 x.1) (M + l.length + 1) ((σ, 1, nI i)) = sg_lp (fun x => f_X4_worth_L29 N 50 6 h x.2.1 x.2.2 x.1) M ((σ, 0, nI (i + l.length + 1))) := by
  intro l
  induction l with
  | nil =>
    intro i M σ H ha hn _
    obtain ⟨h4, e5, e27, hn9, hcl, hcd, hL⟩ := H
    have hn : i + 0 + 1 ≤ n := hn
    have a1 : code.getD i 0 = 20059 := (At_cons (l := []) ha).1
    have e6 := hcd i (by omega)
    rw [a1] at e6
    refine lp_step ?_
    show f_X4_worth_L29 N 50 6 h 1 (nI i) σ = _
    unfold f_X4_worth_L29
    simp (disch := omega) only [sg_cr, sg_cl, sg_lb, sg_pf, sg_pl, sg_nz, sg_nzl, sg_nar0, sg_nar1, lt_T, lt_F, le_T, le_F, eq_T, eq_F, ltL_T, ltL_F, leL_T, leL_F, eqL_T, eqL_F, Llt_T, Llt_F, Lle_T, Lle_F, Leq_T, Leq_F, n10_F, n01_F, le0_F, lt0_T, le0_T, eq0_F, lt1_F, nJ_not_neg, nJ_ne_neg, nJ_neg_lt, nJ_neg_le, nJ_le_neg, ↓reduceIte, ld_ok, st_ok, rf_ok, ld_okL, st_okL, nJ_add, nJ_addL, nJ_Ladd, nJ_mul, nJ_mulL, nJ_Lmul, e5, e27, e6]
    rfl
  | cons a l ih =>
    intro i M σ H ha hn hz
    have H9 := H
    obtain ⟨h4, e5, e27, hn9, hcl, hcd, hL⟩ := H
    have hn : i + (l.length + 1) + 1 ≤ n := hn
    obtain ⟨a1, a2⟩ := At_cons (a := a) (l := l ++ [20059]) ha
    have e6 := hcd i (by omega)
    rw [a1] at e6
    have hne := hz a List.mem_cons_self
    have e : sg_lp (fun x => f_X4_worth_L29 N 50 6 h x.2.1 x.2.2 x.1) (M + (l.length + 1) + 1) ((σ, 1, nI i)) = sg_lp (fun x => f_X4_worth_L29 N 50 6 h x.2.1 x.2.2 x.1) (M + (l.length + 1)) ((σ, 1, nI (i + 1))) := by
      refine lp_step ?_
      show f_X4_worth_L29 N 50 6 h 1 (nI i) σ = _
      unfold f_X4_worth_L29
      simp (disch := omega) only [sg_cr, sg_cl, sg_lb, sg_pf, sg_pl, sg_nz, sg_nzl, sg_nar0, sg_nar1, lt_T, lt_F, le_T, le_F, eq_T, eq_F, ltL_T, ltL_F, leL_T, leL_F, eqL_T, eqL_F, Llt_T, Llt_F, Lle_T, Lle_F, Leq_T, Leq_F, n10_F, n01_F, le0_F, lt0_T, le0_T, eq0_F, lt1_F, nJ_not_neg, nJ_ne_neg, nJ_neg_lt, nJ_neg_le, nJ_le_neg, ↓reduceIte, ld_ok, st_ok, rf_ok, ld_okL, st_okL, nJ_add, nJ_addL, nJ_Ladd, nJ_mul, nJ_mulL, nJ_Lmul, e5, e27, e6, hne]
    show sg_lp _ (M + (l.length + 1) + 1) _ = _
    rw [e, show M + (l.length + 1) = M + l.length + 1 by omega, ih (i + 1) M σ H9 a2 (by omega) (fun z hz' => hz z (List.mem_cons_of_mem _ hz'))]
    show _ = sg_lp _ M (σ, 0, nI (i + (l.length + 1) + 1))
    rw [show i + 1 + l.length + 1 = i + (l.length + 1) + 1 by omega]
def lwWorth (L : Nat → Int32) : List (List (Int32 × Int32) × List (Int32 × Int32)) → Int32
  | [] => 0
  | q :: r => if q.1 = [] ∨ (lwEv L q.1 []).headD 0 ≠ 0 then (lwEv L q.2 []).headD 0 else lwWorth L r
theorem TyOk_one {b : Bool} {st : List Int32} (h : TyOk [b] st) : ∃ a, st = [a] ∧ okv b a := by
  match st, h with
  | [a], h => exact ⟨a, rfl, h.1⟩
  | a :: b :: st, h => exact h.2.elim
  | [], h => exact h.elim
def okCl (q : List (Int32 × Int32) × List (Int32 × Int32)) : Prop := (∀ z ∈ q.1, lwI z) ∧ (∀ z ∈ q.2, lwI z) ∧ (q.1 ≠ [] → lwTy q.1 [] = some [true]) ∧ lwTy q.2 [] = some [false]
/-- a sum, and its end -/
theorem c_sum {N h n : Nat} {code : List Int32} {L : Nat → Int32} (hL : ∀ v, v < 6 → okv false (L v)) {seg : List (Int32 × Int32)} {i M : Nat} {σ : sgS} (H : CWx h n code L σ) (ha : At code i (seg.map lwE ++ [20059])) (hn : i + seg.length + 1 ≤ n) (hq : ∀ q ∈ seg, lwI q) (h1 : lwTy seg [] = some [false]) (hst : CSt [] σ) :
    ∃ σ', sg_lp (fun x => f_X4_worth_L29 N 50 6 h x.2.1 x.2.2 x.1) (M + 1 + seg.length) ((σ, 0, nI i)) = some (.inl ((lwEv L seg []).headD 0, σ')) ∧ Fr stkC σ σ' := by
  obtain ⟨a1, a2⟩ := At_app ha
  rw [List.length_map] at a2
  obtain ⟨σ1, e1, s1, f1⟩ := c_seg (N := N) (h := h) hL seg [] [false] [] i (M + 1) σ H a1 (by omega) hq h1 trivial (by decide) hst
  obtain ⟨v, ev, -⟩ := TyOk_one (lwTy_ok hL seg [] [false] [] hq h1 trivial)
  rw [ev] at s1
  obtain ⟨σ2, e2, s2, f2⟩ := pop_ok (N := N) s1 (by decide)
  obtain ⟨h4, e5, e27, hn9, hcl, hcd, hL9⟩ := CWx_fr H f1
  have e6 := hcd (i + seg.length) (by omega)
  rw [(At_cons (l := []) a2).1] at e6
  refine ⟨σ2, ?_, f1.tr f2⟩
  rw [e1, ev]
  refine lp_ret ?_
  show f_X4_worth_L29 N 50 6 h 0 (nI (i + seg.length)) σ1 = _
  unfold f_X4_worth_L29
  simp (disch := omega) only [sg_cr, sg_cl, sg_lb, sg_pf, sg_pl, sg_nz, sg_nzl, sg_nar0, sg_nar1, lt_T, lt_F, le_T, le_F, eq_T, eq_F, ltL_T, ltL_F, leL_T, leL_F, eqL_T, eqL_F, Llt_T, Llt_F, Lle_T, Lle_F, Leq_T, Leq_F, n10_F, n01_F, le0_F, lt0_T, le0_T, eq0_F, lt1_F, nJ_not_neg, nJ_ne_neg, nJ_neg_lt, nJ_neg_le, nJ_le_neg, ↓reduceIte, ld_ok, st_ok, rf_ok, ld_okL, st_okL, nJ_add, nJ_addL, nJ_Ladd, nJ_mul, nJ_mulL, nJ_Lmul, e5, e27, e6, e2]
  rfl
theorem c_worth {N h n : Nat} {code : List Int32} {L : Nat → Int32} (hL : ∀ v, v < 6 → okv false (L v)) : ∀ (law : List (List (Int32 × Int32) × List (Int32 × Int32))) (i M : Nat) (σ : sgS), CWx h n code L σ → At code i (lwCode law) → i + (lwCode law).length = n → (∀ q ∈ law, okCl q) → CSt [] σ → n - i < M →
    ∃ σ', (sg_lb (sg_lp (fun x => f_X4_worth_L29 N 50 6 h x.2.1 x.2.2 x.1) M ((σ, 0, nI i))) (fun r => some r) fun y => some (0, y)) = some (lwWorth L law, σ') ∧ Fr stkC σ σ' := by
  intro law
  induction law with
  | nil =>
    intro i M σ H ha hn _ hst hM
    obtain ⟨h4, e5, e27, hn9, hcl, hcd, hL9⟩ := H
    have hn : i + 0 = n := hn
    obtain ⟨M, rfl⟩ : ∃ m, M = m + 1 := ⟨M - 1, by omega⟩
    refine ⟨σ, ?_, Fr.rf⟩
    rw [lp_out (y := σ)]
    · rfl
    · show f_X4_worth_L29 N 50 6 h 0 (nI i) σ = _
      unfold f_X4_worth_L29
      simp (disch := omega) only [sg_cr, sg_cl, sg_lb, sg_pf, sg_pl, sg_nz, sg_nzl, sg_nar0, sg_nar1, lt_T, lt_F, le_T, le_F, eq_T, eq_F, ltL_T, ltL_F, leL_T, leL_F, eqL_T, eqL_F, Llt_T, Llt_F, Lle_T, Lle_F, Leq_T, Leq_F, n10_F, n01_F, le0_F, lt0_T, le0_T, eq0_F, lt1_F, nJ_not_neg, nJ_ne_neg, nJ_neg_lt, nJ_neg_le, nJ_le_neg, ↓reduceIte, ld_ok, st_ok, rf_ok, ld_okL, st_okL, nJ_add, nJ_addL, nJ_Ladd, nJ_mul, nJ_mulL, nJ_Lmul, e5, e27]
  | cons q law ih =>
    intro i M σ H ha hn hq hst hM
    obtain ⟨o1, o2, o3, o4⟩ := hq q List.mem_cons_self
    have ha : At code i (lwCl q ++ lwCode law) := ha
    have hn : i + (lwCl q ++ lwCode law).length = n := hn
    rw [List.length_append] at hn
    obtain ⟨a1, a2⟩ := At_app ha
    by_cases c : q.1 = []
    · have el : lwCl q = q.2.map lwE ++ [20059] := by unfold lwCl; rw [if_pos c, List.nil_append]
      have ell : (lwCl q).length = q.2.length + 1 := by rw [el]; simp
      rw [el] at a1
      obtain ⟨σ1, e1, f1⟩ := c_sum (N := N) (M := M - 1 - q.2.length) hL H a1 (by omega) o2 o4 hst
      rw [show M - 1 - q.2.length + 1 + q.2.length = M by omega] at e1
      refine ⟨σ1, ?_, f1⟩
      rw [e1]
      show some _ = some (if q.1 = [] ∨ _ then _ else _, σ1)
      rw [if_pos (Or.inl c)]
    · have el : lwCl q = q.1.map lwE ++ ([20063] ++ (q.2.map lwE ++ [20059])) := by unfold lwCl; rw [if_neg c]; simp
      have ell : (lwCl q).length = q.1.length + 1 + (q.2.length + 1) := by rw [el]; simp; omega
      rw [el] at a1
      obtain ⟨b1, b2⟩ := At_app a1
      rw [List.length_map] at b2
      obtain ⟨b3, b4⟩ := At_cons (a := 20063) (l := q.2.map lwE ++ [20059]) b2
      obtain ⟨σ1, e1, s1, f1⟩ := c_seg (N := N) (h := h) hL q.1 [] [true] [] i (M - q.1.length) σ H b1 (by omega) o1 (o3 c) trivial (by decide) hst
      rw [show M - q.1.length + q.1.length = M by omega] at e1
      obtain ⟨v, ev, -⟩ := TyOk_one (lwTy_ok hL q.1 [] [true] [] o1 (o3 c) trivial)
      rw [ev] at s1
      obtain ⟨σ2, e2, s2, f2⟩ := pop_ok (N := N) s1 (by decide)
      have H2 := CWx_fr H (f1.tr f2)
      obtain ⟨h4, e5, e27, hn9, hcl, hcd, hL9⟩ := CWx_fr H f1
      have e6 := hcd (i + q.1.length) (by omega)
      rw [b3] at e6
      rw [e1]
      by_cases cv : v = 0
      · have e3 : sg_lp (fun x => f_X4_worth_L29 N 50 6 h x.2.1 x.2.2 x.1) (M - q.1.length - 1 + 1) ((σ1, 0, nI (i + q.1.length))) = sg_lp (fun x => f_X4_worth_L29 N 50 6 h x.2.1 x.2.2 x.1) (M - q.1.length - 1) ((σ2, 1, nI (i + q.1.length + 1))) := by
          refine lp_step ?_
          show f_X4_worth_L29 N 50 6 h 0 (nI (i + q.1.length)) σ1 = _
          unfold f_X4_worth_L29
          simp (disch := omega) only [sg_cr, sg_cl, sg_lb, sg_pf, sg_pl, sg_nz, sg_nzl, sg_nar0, sg_nar1, lt_T, lt_F, le_T, le_F, eq_T, eq_F, ltL_T, ltL_F, leL_T, leL_F, eqL_T, eqL_F, Llt_T, Llt_F, Lle_T, Lle_F, Leq_T, Leq_F, n10_F, n01_F, le0_F, lt0_T, le0_T, eq0_F, lt1_F, nJ_not_neg, nJ_ne_neg, nJ_neg_lt, nJ_neg_le, nJ_le_neg, ↓reduceIte, ld_ok, st_ok, rf_ok, ld_okL, st_okL, nJ_add, nJ_addL, nJ_Ladd, nJ_mul, nJ_mulL, nJ_Lmul, e5, e27, e6, e2, cv]
          rfl
        rw [show M - q.1.length = M - q.1.length - 1 + 1 by omega, e3]
        have e4 := c_skip (N := N) (h := h) (n := n) (L := L) (q.2.map lwE) (i + q.1.length + 1) (M - q.1.length - 1 - q.2.length - 1) σ2 H2 b4 (by rw [List.length_map]; omega) (fun z hz => by
          obtain ⟨y, hy, rfl⟩ := List.mem_map.mp hz
          exact lwE_ne (o2 y hy))
        rw [List.length_map, show M - q.1.length - 1 - q.2.length - 1 + q.2.length + 1 = M - q.1.length - 1 by omega] at e4
        rw [e4]
        rw [ell] at a2 hn
        rw [show i + (q.1.length + 1 + (q.2.length + 1)) = i + q.1.length + 1 + q.2.length + 1 by omega] at a2
        obtain ⟨σ3, e7, f7⟩ := ih (i + q.1.length + 1 + q.2.length + 1) (M - q.1.length - 1 - q.2.length - 1) σ2 H2 a2 (by omega) (fun z hz => hq z (List.mem_cons_of_mem _ hz)) s2 (by omega)
        refine ⟨σ3, ?_, (f1.tr f2).tr f7⟩
        rw [e7]
        show some _ = some (if q.1 = [] ∨ (lwEv L q.1 []).headD 0 ≠ 0 then _ else _, σ3)
        rw [if_neg]
        rintro (z | z)
        · exact c z
        · rw [ev] at z; exact z cv
      · have e3 : sg_lp (fun x => f_X4_worth_L29 N 50 6 h x.2.1 x.2.2 x.1) (M - q.1.length - 1 + 1) ((σ1, 0, nI (i + q.1.length))) = sg_lp (fun x => f_X4_worth_L29 N 50 6 h x.2.1 x.2.2 x.1) (M - q.1.length - 1) ((σ2, 0, nI (i + q.1.length + 1))) := by
          refine lp_step ?_
          show f_X4_worth_L29 N 50 6 h 0 (nI (i + q.1.length)) σ1 = _
          unfold f_X4_worth_L29
          simp (disch := omega) only [sg_cr, sg_cl, sg_lb, sg_pf, sg_pl, sg_nz, sg_nzl, sg_nar0, sg_nar1, lt_T, lt_F, le_T, le_F, eq_T, eq_F, ltL_T, ltL_F, leL_T, leL_F, eqL_T, eqL_F, Llt_T, Llt_F, Lle_T, Lle_F, Leq_T, Leq_F, n10_F, n01_F, le0_F, lt0_T, le0_T, eq0_F, lt1_F, nJ_not_neg, nJ_ne_neg, nJ_neg_lt, nJ_neg_le, nJ_le_neg, ↓reduceIte, ld_ok, st_ok, rf_ok, ld_okL, st_okL, nJ_add, nJ_addL, nJ_Ladd, nJ_mul, nJ_mulL, nJ_Lmul, e5, e27, e6, e2, cv]
          rfl
        rw [show M - q.1.length = M - q.1.length - 1 + 1 by omega, e3]
        obtain ⟨σ3, e7, f7⟩ := c_sum (N := N) (M := M - q.1.length - 1 - 1 - q.2.length) hL H2 b4 (by omega) o2 o4 s2
        rw [show M - q.1.length - 1 - 1 - q.2.length + 1 + q.2.length = M - q.1.length - 1 by omega] at e7
        refine ⟨σ3, ?_, (f1.tr f2).tr f7⟩
        rw [e7]
        show some _ = some (if q.1 = [] ∨ (lwEv L q.1 []).headD 0 ≠ 0 then _ else _, σ3)
        rw [if_pos]
        right
        rw [ev]; exact cv
