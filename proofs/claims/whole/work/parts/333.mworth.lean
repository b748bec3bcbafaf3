/-! the reference works it out -/
def stkM (j _k : Nat) : Prop := j = 10
def MSt (st : List Int32) (τ : sgS) : Prop := ∀ k, k < st.length → τ.1 10 k = stB st k
/-- items at b of the rows, letters L -/
def MWx (b : Nat) (seg : List (Int32 × Int32)) (L : Nat → Int32) (τ : sgS) : Prop := (∀ k, k < seg.length → τ.1 2 (b + k) = (seg.getD k (0, 0)).1 ∧ τ.1 3 (b + k) = (seg.getD k (0, 0)).2) ∧ b + seg.length ≤ 2600 ∧ ∀ v, v < 6 → τ.1 9 v = L v
theorem MWx_fr {b : Nat} {seg : List (Int32 × Int32)} {L : Nat → Int32} {τ τ' : sgS} (H : MWx b seg L τ) (f : Fr stkM τ τ') : MWx b seg L τ' := by
  obtain ⟨h1, h2, h3⟩ := H
  refine ⟨fun k hk => ?_, h2, fun v hv => ?_⟩
  · rw [f 2 _ (by unfold stkM; omega), f 3 _ (by unfold stkM; omega)]; exact h1 k hk
  · rw [f 9 v (by unfold stkM; omega)]; exact h3 v hv
theorem MWx_tl {b : Nat} {q : Int32 × Int32} {seg : List (Int32 × Int32)} {L : Nat → Int32} {τ : sgS} (H : MWx b (q :: seg) L τ) : MWx (b + 1) seg L τ := by
  obtain ⟨h1, h2, h3⟩ := H
  have h2 : b + (seg.length + 1) ≤ 2600 := h2
  refine ⟨fun k hk => ?_, by omega, h3⟩
  have := h1 (k + 1) (Nat.succ_lt_succ hk)
  rw [show b + (k + 1) = b + 1 + k by omega] at this
  exact this
theorem MSt_push {v : Int32} {st : List Int32} {τ : sgS} (h : MSt st τ) : MSt (v :: st) (sg_up τ 10 st.length v) := by
  intro k hk
  have hk : k < st.length + 1 := hk
  rw [up_get]
  by_cases c : k = st.length
  · rw [if_pos ⟨rfl, c⟩, c, stB_top]
  · rw [if_neg (fun z => c z.2), stB_lt (by omega)]; exact h k (by omega)
theorem MSt_top {v : Int32} {st : List Int32} {τ : sgS} (h : MSt (v :: st) τ) : τ.1 10 st.length = v ∧ MSt st τ := by
  refine ⟨?_, fun k hk => ?_⟩
  · rw [h st.length (Nat.lt_succ_self _), stB_top]
  · rw [h k (Nat.lt_succ_of_lt hk), stB_lt hk]
theorem neg1_add {n : Nat} (h : 1 ≤ n) : nI n + (-1) = nI (n - 1) := by
  rw [show (-1 : Int32) = -(1 : Int32) from rfl, ← Int32.sub_eq_add_neg]
  exact nJ_subL (n := 1) h
theorem m_item {N b n e f2 : Nat} {p2 : Int32} {L : Nat → Int32} {q : Int32 × Int32} {seg : List (Int32 × Int32)} {t t' : List Bool} {st : List Int32} {τ : sgS} (H : MWx b (q :: seg) L τ) (he : b < 520 * n + e) (he2 : 520 * n + e < 2147483648) (hq : lwI q) (ht : lwTy1 q t = some t') (hT : TyOk t st) (h70 : t.length ≤ 70) (hst : MSt st τ) : ∃ τ', f_X12_workOut_L12 N (nI n) p2 (nI e) (nI st.length) (nI b) τ = some (.inr (.inl (τ', nI (lwSt L q st).length, nI (b + 1)))) ∧ MSt (lwSt L q st) τ' ∧ Fr stkM τ τ' := by
  have hlen := TyOk_len t st hT
  obtain ⟨hc1, hc2, hL⟩ := H
  have hc2 : b + (seg.length + 1) ≤ 2600 := hc2
  obtain ⟨e1, e2⟩ := hc1 0 (Nat.succ_pos _)
  have e1 : τ.1 2 b = q.1 := e1
  have e2 : τ.1 3 b = q.2 := e2
  unfold f_X12_workOut_L12 f_X12_workOut_L12_B45
  simp (disch := omega) only [sg_cr, sg_cl, sg_lb, sg_pf, sg_pl, sg_nz, sg_nzl, sg_nar0, sg_nar1, lt_T, lt_F, le_T, le_F, eq_T, eq_F, ltL_T, ltL_F, leL_T, leL_F, eqL_T, eqL_F, Llt_T, Llt_F, Lle_T, Lle_F, Leq_T, Leq_F, n10_F, n01_F, le0_F, lt0_T, le0_T, eq0_F, lt1_F, nJ_not_neg, nJ_ne_neg, nJ_neg_lt, nJ_neg_le, nJ_le_neg, ↓reduceIte, ld_ok, st_ok, rf_ok, ld_okL, st_okL, nJ_add, nJ_addL, nJ_Ladd, nJ_mul, nJ_mulL, nJ_Lmul, e1, e2]
  obtain ⟨c, v⟩ := q
  rcases hq with ⟨e, v', hv, e9⟩ | ⟨e, v', hv, e9⟩ | ⟨c', h2, h11, e⟩
  · have e : c = 0 := e
    have e9 : v = nI v' := e9
    subst e e9
    simp (disch := omega) only [sg_cr, sg_cl, sg_lb, sg_pf, sg_pl, sg_nz, sg_nzl, sg_nar0, sg_nar1, lt_T, lt_F, le_T, le_F, eq_T, eq_F, ltL_T, ltL_F, leL_T, leL_F, eqL_T, eqL_F, Llt_T, Llt_F, Lle_T, Lle_F, Leq_T, Leq_F, n10_F, n01_F, le0_F, lt0_T, le0_T, eq0_F, lt1_F, nJ_not_neg, nJ_ne_neg, nJ_neg_lt, nJ_neg_le, nJ_le_neg, ↓reduceIte, ld_ok, st_ok, rf_ok, ld_okL, st_okL, nJ_add, nJ_addL, nJ_Ladd, nJ_mul, nJ_mulL, nJ_Lmul]
    exact ⟨_, rfl, MSt_push hst, Fr.up rfl⟩
  · have e : c = 1 := e
    have e9 : v = nI v' := e9
    subst e e9
    simp (disch := omega) only [sg_cr, sg_cl, sg_lb, sg_pf, sg_pl, sg_nz, sg_nzl, sg_nar0, sg_nar1, lt_T, lt_F, le_T, le_F, eq_T, eq_F, ltL_T, ltL_F, leL_T, leL_F, eqL_T, eqL_F, Llt_T, Llt_F, Lle_T, Lle_F, Leq_T, Leq_F, n10_F, n01_F, le0_F, lt0_T, le0_T, eq0_F, lt1_F, nJ_not_neg, nJ_ne_neg, nJ_neg_lt, nJ_neg_le, nJ_le_neg, ↓reduceIte, ld_ok, st_ok, rf_ok, ld_okL, st_okL, nJ_add, nJ_addL, nJ_Ladd, nJ_mul, nJ_mulL, nJ_Lmul, hL v' hv]
    refine ⟨_, rfl, ?_, Fr.up rfl⟩
    show MSt (L (nI v').toNatClampNeg :: st) _
    rw [nJ_clamp (by omega)]
    exact MSt_push hst
  · have e : c = nI c' := e
    subst e
    by_cases h9 : c' = 9
    · subst h9
      obtain ⟨r, rfl, rfl⟩ := lwT1_eq (show lwT1 t = some t' from ht)
      match st, hT, hst, hlen with
      | a :: st, hT, hst, hlen =>
        have hl2 : st.length + 1 ≤ 70 := by simp only [List.length_cons] at hlen h70; omega
        obtain ⟨s1, s2⟩ := MSt_top hst
        simp (disch := omega) only [sg_cr, sg_cl, sg_lb, sg_pf, sg_pl, sg_nz, sg_nzl, sg_nar0, sg_nar1, lt_T, lt_F, le_T, le_F, eq_T, eq_F, ltL_T, ltL_F, leL_T, leL_F, eqL_T, eqL_F, Llt_T, Llt_F, Lle_T, Lle_F, Leq_T, Leq_F, n10_F, n01_F, le0_F, lt0_T, le0_T, eq0_F, lt1_F, nJ_not_neg, nJ_ne_neg, nJ_neg_lt, nJ_neg_le, nJ_le_neg, ↓reduceIte, ld_ok, st_ok, rf_ok, ld_okL, st_okL, nJ_add, nJ_addL, nJ_Ladd, nJ_mul, nJ_mulL, nJ_Lmul, List.length_cons, nJ_subL, Nat.add_sub_cancel, s1]
        exact ⟨_, rfl, MSt_push s2, Fr.up rfl⟩
      | [], hT, _, _ => exact hT.elim
    · have htt : ∃ r, t = lwK c' :: lwK c' :: r := by
        have hc : c' = 2 ∨ c' = 3 ∨ c' = 4 ∨ c' = 5 ∨ c' = 6 ∨ c' = 7 ∨ c' = 8 ∨ c' = 10 ∨ c' = 11 := by omega
        rcases hc with rfl | rfl | rfl | rfl | rfl | rfl | rfl | rfl | rfl
        · obtain ⟨r, e1, -⟩ := lwT2_eq (show lwT2 false false t = some t' from ht); exact ⟨r, e1⟩
        · obtain ⟨r, e1, -⟩ := lwT2_eq (show lwT2 false false t = some t' from ht); exact ⟨r, e1⟩
        · obtain ⟨r, e1, -⟩ := lwT2_eq (show lwT2 false false t = some t' from ht); exact ⟨r, e1⟩
        · obtain ⟨r, e1, -⟩ := lwT2_eq (show lwT2 false false t = some t' from ht); exact ⟨r, e1⟩
        · obtain ⟨r, e1, -⟩ := lwT2_eq (show lwT2 false true t = some t' from ht); exact ⟨r, e1⟩
        · obtain ⟨r, e1, -⟩ := lwT2_eq (show lwT2 false true t = some t' from ht); exact ⟨r, e1⟩
        · obtain ⟨r, e1, -⟩ := lwT2_eq (show lwT2 false true t = some t' from ht); exact ⟨r, e1⟩
        · obtain ⟨r, e1, -⟩ := lwT2_eq (show lwT2 true true t = some t' from ht); exact ⟨r, e1⟩
        · obtain ⟨r, e1, -⟩ := lwT2_eq (show lwT2 true true t = some t' from ht); exact ⟨r, e1⟩
      obtain ⟨r, rfl⟩ := htt
      match st, hT, hst, hlen with
      | a :: b' :: st, hT, hst, hlen =>
        have hl2 : st.length + 2 ≤ 70 := by simp only [List.length_cons] at hlen h70; omega
        obtain ⟨s1, s2⟩ := MSt_top hst
        obtain ⟨s3, s4⟩ := MSt_top s2
        have s1 : τ.1 10 (st.length + 1) = a := s1
        have hj := worked_ok (N := N) (τ := τ) (a := b') (b := a) h2 h11 h9 ⟨hT.2.1, hT.1⟩
        have e9 : lwSt L (nI c', v) (a :: b' :: st) = lwJ (nI c') b' a :: st := by
          rcases (show c' = 2 ∨ c' = 3 ∨ c' = 4 ∨ c' = 5 ∨ c' = 6 ∨ c' = 7 ∨ c' = 8 ∨ c' = 10 ∨ c' = 11 by omega) with rfl | rfl | rfl | rfl | rfl | rfl | rfl | rfl | rfl <;> rfl
        simp (disch := omega) only [sg_cr, sg_cl, sg_lb, sg_pf, sg_pl, sg_nz, sg_nzl, sg_nar0, sg_nar1, lt_T, lt_F, le_T, le_F, eq_T, eq_F, ltL_T, ltL_F, leL_T, leL_F, eqL_T, eqL_F, Llt_T, Llt_F, Lle_T, Lle_F, Leq_T, Leq_F, n10_F, n01_F, le0_F, lt0_T, le0_T, eq0_F, lt1_F, nJ_not_neg, nJ_ne_neg, nJ_neg_lt, nJ_neg_le, nJ_le_neg, ↓reduceIte, ld_ok, st_ok, rf_ok, ld_okL, st_okL, nJ_add, nJ_addL, nJ_Ladd, nJ_mul, nJ_mulL, nJ_Lmul, List.length_cons, neg1_add, nJ_subL, Nat.add_sub_cancel, s1, s3, hj, e9]
        exact ⟨_, rfl, MSt_push s4, Fr.up rfl⟩
      | [a], hT, _, _ => exact hT.2.elim
      | [], hT, _, _ => exact hT.elim
theorem m_seg {N n e : Nat} {p2 : Int32} {L : Nat → Int32} (hL : ∀ v, v < 6 → okv false (L v)) (he2 : 520 * n + e < 2147483648) : ∀ (seg : List (Int32 × Int32)) (t t' : List Bool) (st : List Int32) (b M : Nat) (τ : sgS), MWx b seg L τ → b + seg.length = 520 * n + e → (∀ q ∈ seg, lwI q) → lwTy seg t = some t' → TyOk t st → t.length ≤ 70 → MSt st τ → seg.length < M →
    ∃ τ', sg_lp (fun x => f_X12_workOut_L12 N (nI n) p2 (nI e) x.2.1 x.2.2 x.1) M ((τ, nI st.length, nI b)) = some (.inr τ') ∧ MSt (lwEv L seg st) τ' ∧ Fr stkM τ τ' := by
  intro seg
  induction seg with
  | nil =>
    intro t t' st b M τ H hb _ _ _ _ hst hM
    have hb : b + 0 = 520 * n + e := hb
    obtain ⟨M, rfl⟩ : ∃ m, M = m + 1 := ⟨M - 1, by omega⟩
    refine ⟨τ, lp_out ?_, hst, Fr.rf⟩
    show f_X12_workOut_L12 N (nI n) p2 (nI e) (nI st.length) (nI b) τ = _
    unfold f_X12_workOut_L12
    simp (disch := omega) only [sg_cr, sg_cl, sg_lb, sg_pf, sg_pl, sg_nz, sg_nzl, sg_nar0, sg_nar1, lt_T, lt_F, le_T, le_F, eq_T, eq_F, ltL_T, ltL_F, leL_T, leL_F, eqL_T, eqL_F, Llt_T, Llt_F, Lle_T, Lle_F, Leq_T, Leq_F, n10_F, n01_F, le0_F, lt0_T, le0_T, eq0_F, lt1_F, nJ_not_neg, nJ_ne_neg, nJ_neg_lt, nJ_neg_le, nJ_le_neg, ↓reduceIte, ld_ok, st_ok, rf_ok, ld_okL, st_okL, nJ_add, nJ_addL, nJ_Ladd, nJ_mul, nJ_mulL, nJ_Lmul]
  | cons q seg ih =>
    intro t t' st b M τ H hb hq h hT h70 hst hM
    have h : (match lwTy1 q t with | none => none | some t' => lwTy seg t') = some t' := h
    have hb : b + (seg.length + 1) = 520 * n + e := hb
    have hM : seg.length + 1 < M := hM
    obtain ⟨M, rfl⟩ : ∃ m, M = m + 1 := ⟨M - 1, by omega⟩
    cases h1 : lwTy1 q t with
    | none => rw [h1] at h; cases h
    | some t1 =>
      rw [h1] at h
      have hq1 := hq q List.mem_cons_self
      obtain ⟨τ1, e1, s1, f1⟩ := m_item (N := N) (n := n) (e := e) (p2 := p2) (f2 := 0) H (by omega) he2 hq1 h1 hT h70 hst
      have hT1 := lwTy1_ok (L := L) hL hq1 h1 hT
      obtain ⟨τ2, e2, s2, f2⟩ := ih t1 t' (lwSt L q st) (b + 1) M τ1 (MWx_fr (MWx_tl H) f1) (by omega) (fun z hz => hq z (List.mem_cons_of_mem _ hz)) h hT1.1 (hT1.2 h70) s1 (by omega)
      exact ⟨τ2, by rw [lp_step e1, e2], s2, f1.tr f2⟩
theorem workOut_ok {N n f e : Nat} {L : Nat → Int32} (hN : 10000 ≤ N) (hL : ∀ v, v < 6 → okv false (L v)) {seg : List (Int32 × Int32)} {k : Bool} {τ : sgS} (H : MWx (520 * n + f) seg L τ) (he : f + seg.length = e) (hq : ∀ q ∈ seg, lwI q) (h : lwTy seg [] = some [k]) : ∃ τ', f_X12_workOut N (nI n) (nI f) (nI e) τ = some ((lwEv L seg []).headD 0, τ') ∧ Fr stkM τ τ' := by
  have h26 := H.2.1
  obtain ⟨τ1, e1, s1, f1⟩ := m_seg (N := N) (n := n) (e := e) (p2 := nI f) (L := L) hL (by omega) seg [] [k] [] (520 * n + f) N τ H (by omega) hq h trivial (by decide) (fun k hk => absurd hk (Nat.not_lt_zero k)) (by omega)
  obtain ⟨v, ev, -⟩ := TyOk_one (lwTy_ok hL seg [] [k] [] hq h trivial)
  rw [ev] at s1
  refine ⟨τ1, ?_, f1⟩
  unfold f_X12_workOut
  rw [nJ_Lmul, nJ_add]
  have e1 : sg_lp (fun x => f_X12_workOut_L12 N (nI n) (nI f) (nI e) x.2.1 x.2.2 x.1) N ((τ, 0, nI (520 * n + f))) = some (.inr τ1) := e1
  rw [e1]
  simp (disch := omega) only [sg_cr, sg_cl, sg_lb, sg_pf, sg_pl, sg_nz, sg_nzl, sg_nar0, sg_nar1, lt_T, lt_F, le_T, le_F, eq_T, eq_F, ltL_T, ltL_F, leL_T, leL_F, eqL_T, eqL_F, Llt_T, Llt_F, Lle_T, Lle_F, Leq_T, Leq_F, n10_F, n01_F, le0_F, lt0_T, le0_T, eq0_F, lt1_F, nJ_not_neg, nJ_ne_neg, nJ_neg_lt, nJ_neg_le, nJ_le_neg, ↓reduceIte, ld_ok, st_ok, rf_ok, ld_okL, st_okL, nJ_add, nJ_addL, nJ_Ladd, nJ_mul, nJ_mulL, nJ_Lmul]
  rw [show τ1.1 10 0 = v from (MSt_top s1).1, ev]
  rfl
theorem getD_app_r {α : Type} {l l' : List α} {k : Nat} {d : α} : (l ++ l').getD (l.length + k) d = l'.getD k d := by
  rw [List.getD_eq_getElem?_getD, List.getD_eq_getElem?_getD, List.getElem?_append_right (by omega), Nat.add_sub_cancel_left]
theorem getD_app_l {α : Type} {l l' : List α} {k : Nat} {d : α} (h : k < l.length) : (l ++ l').getD k d = l.getD k d := by
  rw [List.getD_eq_getElem?_getD, List.getD_eq_getElem?_getD, List.getElem?_append_left h]
theorem lwItems_split {l : List (List (Int32 × Int32) × List (Int32 × Int32))} {c : Nat} (h : c < l.length) : lwItems l = lwItems (l.take c) ++ ((l.getD c ([], [])).1 ++ ((l.getD c ([], [])).2 ++ lwItems (l.drop (c + 1)))) := by
  have e : l = l.take c ++ (l.getD c ([], []) :: l.drop (c + 1)) := by
    rw [List.getD_eq_getElem?_getD, List.getElem?_eq_getElem h, Option.getD_some, List.getElem_cons_drop, List.take_append_drop]
  conv => lhs; rw [e]
  unfold lwItems
  rw [List.flatMap_append, List.flatMap_cons, List.append_assoc]
theorem lwItems_succ {l : List (List (Int32 × Int32) × List (Int32 × Int32))} {c : Nat} (h : c < l.length) : (lwItems (l.take (c + 1))).length = (lwItems (l.take c)).length + (l.getD c ([], [])).1.length + (l.getD c ([], [])).2.length := by
  rw [List.take_succ_eq_append_getElem h]
  unfold lwItems
  rw [List.flatMap_append, List.length_append]
  have : l.getD c ([], []) = l[c] := by rw [List.getD_eq_getElem?_getD, List.getElem?_eq_getElem h]; rfl
  rw [this]
  simp [List.flatMap_cons]
  omega
theorem m_worth {N n : Nat} {L : Nat → Int32} (hN : 10000 ≤ N) (hL : ∀ v, v < 6 → okv false (L v)) {l : List (List (Int32 × Int32) × List (Int32 × Int32))} (hn4 : n < 5) (h139 : l.length ≤ 139) (h520 : (lwItems l).length ≤ 520) (hok : ∀ q ∈ l, okCl q) : ∀ (m c M : Nat) (τ : sgS), c + m = l.length → MLaw l n τ → (∀ v, v < 6 → τ.1 9 v = L v) → m < M →
    ∃ τ', (sg_lb (sg_lp (fun x => f_X12_worthOf_L6 N (nI n) x.2 x.1) M ((τ, nI (140 * n + c)))) (fun r => some r) fun y => some (0, y)) = some (lwWorth L (l.drop c), τ') ∧ Fr stkM τ τ' := by
  intro m
  induction m with
  | zero =>
    intro c M τ hc H hl hM
    obtain ⟨M, rfl⟩ : ∃ m, M = m + 1 := ⟨M - 1, by omega⟩
    refine ⟨τ, ?_, Fr.rf⟩
    rw [lp_out (y := τ)]
    · rw [List.drop_eq_nil_of_le (by omega)]; rfl
    · show f_X12_worthOf_L6 N (nI n) (nI (140 * n + c)) τ = _
      unfold f_X12_worthOf_L6
      simp (disch := omega) only [sg_cr, sg_cl, sg_lb, sg_pf, sg_pl, sg_nz, sg_nzl, sg_nar0, sg_nar1, lt_T, lt_F, le_T, le_F, eq_T, eq_F, ltL_T, ltL_F, leL_T, leL_F, eqL_T, eqL_F, Llt_T, Llt_F, Lle_T, Lle_F, Leq_T, Leq_F, n10_F, n01_F, le0_F, lt0_T, le0_T, eq0_F, lt1_F, nJ_not_neg, nJ_ne_neg, nJ_neg_lt, nJ_neg_le, nJ_le_neg, ↓reduceIte, ld_ok, st_ok, rf_ok, ld_okL, st_okL, nJ_add, nJ_addL, nJ_Ladd, nJ_mul, nJ_mulL, nJ_Lmul, H.1]
  | succ m ih =>
    intro c M τ hc H hl hM
    obtain ⟨M, rfl⟩ : ∃ m, M = m + 1 := ⟨M - 1, by omega⟩
    have hcl : c < l.length := by omega
    obtain ⟨m1, m2, m3⟩ := H
    obtain ⟨t1, t2, t3⟩ := m3 c hcl
    have eg : l.getD c ([], []) = l[c] := by rw [List.getD_eq_getElem?_getD, List.getElem?_eq_getElem hcl]; rfl
    have hmem : l.getD c ([], []) ∈ l := by rw [eg]; exact List.getElem_mem hcl
    have hd : l.drop c = l.getD c ([], []) :: l.drop (c + 1) := by rw [eg]; exact List.drop_eq_getElem_cons hcl
    have hsu := lwItems_succ hcl
    have hsp := lwItems_split hcl
    generalize hq : l.getD c ([], []) = q at *
    obtain ⟨o1, o2, o3, o4⟩ := hok q hmem
    have hlen : (lwItems l).length = (lwItems (l.take c)).length + (q.1.length + (q.2.length + (lwItems (l.drop (c + 1))).length)) := by rw [hsp]; simp
    have w1 : ∀ τ', Fr stkM τ τ' → MWx (520 * n + (lwItems (l.take c)).length) q.1 L τ' := by
      intro τ' f
      refine ⟨fun k hk => ?_, by omega, fun v hv => ?_⟩
      · rw [f 2 _ (by unfold stkM; omega), f 3 _ (by unfold stkM; omega), Nat.add_assoc]
        have := m2 ((lwItems (l.take c)).length + k) (by omega)
        rw [hsp, getD_app_r, getD_app_l hk] at this
        exact this
      · rw [f 9 v (by unfold stkM; omega)]; exact hl v hv
    have w2 : ∀ τ', Fr stkM τ τ' → MWx (520 * n + ((lwItems (l.take c)).length + q.1.length)) q.2 L τ' := by
      intro τ' f
      refine ⟨fun k hk => ?_, by omega, fun v hv => ?_⟩
      · rw [f 2 _ (by unfold stkM; omega), f 3 _ (by unfold stkM; omega), Nat.add_assoc]
        have := m2 ((lwItems (l.take c)).length + q.1.length + k) (by omega)
        rw [hsp, show (lwItems (l.take c)).length + q.1.length + k = (lwItems (l.take c)).length + (q.1.length + k) by omega, getD_app_r, getD_app_r, getD_app_l hk] at this
        rw [show (lwItems (l.take c)).length + q.1.length + k = (lwItems (l.take c)).length + (q.1.length + k) by omega]
        exact this
      · rw [f 9 v (by unfold stkM; omega)]; exact hl v hv
    -- the sum
    have hsum : ∀ τ', Fr stkM τ τ' → ∃ τ'', f_X12_worthOf_L6_B57 N (nI n) (nI (140 * n + c)) τ' = some (.inl ((lwEv L q.2 []).headD 0, τ'')) ∧ Fr stkM τ' τ'' := by
      intro τ' f
      obtain ⟨τ2, e2, f2⟩ := workOut_ok (N := N) (n := n) (f := (lwItems (l.take c)).length + q.1.length) (e := (lwItems (l.take (c + 1))).length) hN hL (w2 τ' f) (by omega) o2 o4
      refine ⟨τ2, ?_, f2⟩
      unfold f_X12_worthOf_L6_B57
      simp (disch := omega) only [sg_cr, sg_cl, sg_lb, sg_pf, sg_pl, sg_nz, sg_nzl, sg_nar0, sg_nar1, lt_T, lt_F, le_T, le_F, eq_T, eq_F, ltL_T, ltL_F, leL_T, leL_F, eqL_T, eqL_F, Llt_T, Llt_F, Lle_T, Lle_F, Leq_T, Leq_F, n10_F, n01_F, le0_F, lt0_T, le0_T, eq0_F, lt1_F, nJ_not_neg, nJ_ne_neg, nJ_neg_lt, nJ_neg_le, nJ_le_neg, ↓reduceIte, ld_ok, st_ok, rf_ok, ld_okL, st_okL, nJ_add, nJ_addL, nJ_Ladd, nJ_mul, nJ_mulL, nJ_Lmul, show τ'.1 7 (140 * n + c) = _ from (f 7 _ (by unfold stkM; omega)).trans t2, show τ'.1 8 (140 * n + c) = _ from (f 8 _ (by unfold stkM; omega)).trans t3, e2]
    rw [hd]
    by_cases cc : q.1 = []
    · obtain ⟨τ2, e2, f2⟩ := hsum τ Fr.rf
      refine ⟨τ2, ?_, f2⟩
      rw [lp_ret (r := ((lwEv L q.2 []).headD 0, τ2))]
      · show some _ = some (if q.1 = [] ∨ _ then _ else _, τ2)
        rw [if_pos (Or.inl cc)]
      · show f_X12_worthOf_L6 N (nI n) (nI (140 * n + c)) τ = _
        unfold f_X12_worthOf_L6
        have h0 : q.1.length = 0 := by rw [cc]; rfl
        simp (disch := omega) only [sg_cr, sg_cl, sg_lb, sg_pf, sg_pl, sg_nz, sg_nzl, sg_nar0, sg_nar1, lt_T, lt_F, le_T, le_F, eq_T, eq_F, ltL_T, ltL_F, leL_T, leL_F, eqL_T, eqL_F, Llt_T, Llt_F, Lle_T, Lle_F, Leq_T, Leq_F, n10_F, n01_F, le0_F, lt0_T, le0_T, eq0_F, lt1_F, nJ_not_neg, nJ_ne_neg, nJ_neg_lt, nJ_neg_le, nJ_le_neg, ↓reduceIte, ld_ok, st_ok, rf_ok, ld_okL, st_okL, nJ_add, nJ_addL, nJ_Ladd, nJ_mul, nJ_mulL, nJ_Lmul, m1, t1, t2, e2]
    · have h0 : q.1.length ≠ 0 := fun z => cc (List.eq_nil_of_length_eq_zero z)
      obtain ⟨τ1, e1, f1⟩ := workOut_ok (N := N) (n := n) (f := (lwItems (l.take c)).length) (e := (lwItems (l.take c)).length + q.1.length) hN hL (w1 τ Fr.rf) rfl o1 (o3 cc)
      by_cases cv : (lwEv L q.1 []).headD 0 = 0
      · have H1 : MLaw l n τ1 := by
          unfold MLaw
          have e' : ∀ j, j ≠ 10 → τ1.1 j = τ.1 j := fun j hj => funext fun k => f1 j k (by unfold stkM; omega)
          rw [e' 5 (by decide), e' 2 (by decide), e' 3 (by decide), e' 6 (by decide), e' 7 (by decide), e' 8 (by decide)]
          exact ⟨m1, m2, m3⟩
        obtain ⟨τ3, e3, f3⟩ := ih (c + 1) M τ1 (by omega) H1 (fun v hv => by rw [f1 9 v (by unfold stkM; omega)]; exact hl v hv) (by omega)
        refine ⟨τ3, ?_, f1.tr f3⟩
        rw [lp_step (x' := (τ1, nI (140 * n + (c + 1))))]
        · rw [e3]
          show some _ = some (if q.1 = [] ∨ (lwEv L q.1 []).headD 0 ≠ 0 then _ else _, τ3)
          rw [if_neg]
          rintro (z | z)
          · exact cc z
          · exact z cv
        · show f_X12_worthOf_L6 N (nI n) (nI (140 * n + c)) τ = _
          unfold f_X12_worthOf_L6
          simp (disch := omega) only [sg_cr, sg_cl, sg_lb, sg_pf, sg_pl, sg_nz, sg_nzl, sg_nar0, sg_nar1, lt_T, lt_F, le_T, le_F, eq_T, eq_F, ltL_T, ltL_F, leL_T, leL_F, eqL_T, eqL_F, Llt_T, Llt_F, Lle_T, Lle_F, Leq_T, Leq_F, n10_F, n01_F, le0_F, lt0_T, le0_T, eq0_F, lt1_F, nJ_not_neg, nJ_ne_neg, nJ_neg_lt, nJ_neg_le, nJ_le_neg, ↓reduceIte, ld_ok, st_ok, rf_ok, ld_okL, st_okL, nJ_add, nJ_addL, nJ_Ladd, nJ_mul, nJ_mulL, nJ_Lmul, m1, t1, t2, e1, cv]
          rfl
      · obtain ⟨τ2, e2, f2⟩ := hsum τ1 f1
        refine ⟨τ2, ?_, f1.tr f2⟩
        rw [lp_ret (r := ((lwEv L q.2 []).headD 0, τ2))]
        · show some _ = some (if q.1 = [] ∨ (lwEv L q.1 []).headD 0 ≠ 0 then _ else _, τ2)
          rw [if_pos (Or.inr cv)]
        · show f_X12_worthOf_L6 N (nI n) (nI (140 * n + c)) τ = _
          unfold f_X12_worthOf_L6
          simp (disch := omega) only [sg_cr, sg_cl, sg_lb, sg_pf, sg_pl, sg_nz, sg_nzl, sg_nar0, sg_nar1, lt_T, lt_F, le_T, le_F, eq_T, eq_F, ltL_T, ltL_F, leL_T, leL_F, eqL_T, eqL_F, Llt_T, Llt_F, Lle_T, Lle_F, Leq_T, Leq_F, n10_F, n01_F, le0_F, lt0_T, le0_T, eq0_F, lt1_F, nJ_not_neg, nJ_ne_neg, nJ_neg_lt, nJ_neg_le, nJ_le_neg, ↓reduceIte, ld_ok, st_ok, rf_ok, ld_okL, st_okL, nJ_add, nJ_addL, nJ_Ladd, nJ_mul, nJ_mulL, nJ_Lmul, m1, t1, t2, e1, cv, e2]
