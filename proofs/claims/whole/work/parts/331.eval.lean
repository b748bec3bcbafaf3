/-! items, one by one, over a stack -/
def lwSt (L : Nat → Int32) (q : Int32 × Int32) (st : List Int32) : List Int32 := if q.1 = 0 then q.2 :: st else if q.1 = 1 then L q.2.toNatClampNeg :: st else if q.1 = 9 then (match st with | a :: r => (1 - a) :: r | [] => []) else (match st with | a :: b :: r => lwJ q.1 b a :: r | _ => [])
def lwEv (L : Nat → Int32) : List (Int32 × Int32) → List Int32 → List Int32
  | [], st => st
  | q :: l, st => lwEv L l (lwSt L q st)
def TyOk : List Bool → List Int32 → Prop
  | [], [] => True
  | b :: t, v :: st => okv b v ∧ TyOk t st
  | _, _ => False
theorem TyOk_len : ∀ (t : List Bool) (st : List Int32), TyOk t st → st.length = t.length := by
  intro t
  induction t with
  | nil => intro st h; cases st with
    | nil => rfl
    | cons v st => exact h.elim
  | cons b t ih => intro st h; cases st with
    | nil => exact h.elim
    | cons v st => show st.length + 1 = t.length + 1; rw [ih st h.2]
theorem lwTy1_ok {L : Nat → Int32} {q : Int32 × Int32} {t t' : List Bool} {st : List Int32} (hL : ∀ v, v < 6 → okv false (L v)) (hq : lwI q) (h : lwTy1 q t = some t') (ht : TyOk t st) : TyOk t' (lwSt L q st) ∧ (t.length ≤ 70 → t'.length ≤ 70) := by
  obtain ⟨c, v⟩ := q
  rcases hq with ⟨e, v', hv, e2⟩ | ⟨e, v', hv, e2⟩ | ⟨c', h2, h11, e⟩
  · have e : c = 0 := e
    have e2 : v = nI v' := e2
    subst e e2
    have h : (if t.length < 70 then some (false :: t) else none) = some t' := h
    by_cases hl : t.length < 70
    · rw [if_pos hl] at h
      cases h
      refine ⟨⟨?_, ht⟩, fun _ => hl⟩
      simp only [okv, Bool.false_eq_true, ↓reduceIte]
      rw [nJ_toInt (by omega)]
      omega
    · rw [if_neg hl] at h; cases h
  · have e : c = 1 := e
    have e2 : v = nI v' := e2
    subst e e2
    have h : (if t.length < 70 then some (false :: t) else none) = some t' := h
    by_cases hl : t.length < 70
    · rw [if_pos hl] at h
      cases h
      refine ⟨⟨?_, ht⟩, fun _ => hl⟩
      show okv false (L (nI v').toNatClampNeg)
      rw [nJ_clamp (by omega)]
      exact hL v' hv
    · rw [if_neg hl] at h; cases h
  · have e : c = nI c' := e
    subst e
    by_cases h9 : c' = 9
    · subst h9
      obtain ⟨r, rfl, rfl⟩ := lwT1_eq (show lwT1 t = some t' from h)
      match st, ht with
      | a :: st, ht =>
        refine ⟨⟨?_, ht.2⟩, fun z => z⟩
        show okv true (1 - a)
        rcases (ht.1 : a = 0 ∨ a = 1) with rfl | rfl
        · exact Or.inr rfl
        · exact Or.inl rfl
      | [], ht => exact ht.elim
    · have hc : c' = 2 ∨ c' = 3 ∨ c' = 4 ∨ c' = 5 ∨ c' = 6 ∨ c' = 7 ∨ c' = 8 ∨ c' = 10 ∨ c' = 11 := by omega
      have key : ∀ (kk rr : Bool), lwK c' = kk → lwR c' = rr → (∃ r, t = kk :: kk :: r ∧ t' = rr :: r) → (∀ a b st, lwSt L (nI c', v) (a :: b :: st) = lwJ (nI c') b a :: st) → TyOk t' (lwSt L (nI c', v) st) ∧ (t.length ≤ 70 → t'.length ≤ 70) := by
        intro kk rr hk hr hrr hst
        obtain ⟨r, rfl, rfl⟩ := hrr
        match st, ht with
        | a :: b :: st, ht =>
          rw [hst]
          refine ⟨⟨?_, ht.2.2⟩, fun z => by simp only [List.length_cons] at z ⊢; omega⟩
          rw [← hr]
          exact lwJ_ok h2 h11 h9 (by rw [hk]; exact ⟨ht.2.1, ht.1⟩)
        | [a], ht => exact ht.2.elim
        | [], ht => exact ht.elim
      rcases hc with rfl | rfl | rfl | rfl | rfl | rfl | rfl | rfl | rfl
      · exact key false false rfl rfl (lwT2_eq h) (fun _ _ _ => rfl)
      · exact key false false rfl rfl (lwT2_eq h) (fun _ _ _ => rfl)
      · exact key false false rfl rfl (lwT2_eq h) (fun _ _ _ => rfl)
      · exact key false false rfl rfl (lwT2_eq h) (fun _ _ _ => rfl)
      · exact key false true rfl rfl (lwT2_eq h) (fun _ _ _ => rfl)
      · exact key false true rfl rfl (lwT2_eq h) (fun _ _ _ => rfl)
      · exact key false true rfl rfl (lwT2_eq h) (fun _ _ _ => rfl)
      · exact key true true rfl rfl (lwT2_eq h) (fun _ _ _ => rfl)
      · exact key true true rfl rfl (lwT2_eq h) (fun _ _ _ => rfl)
/-- the stacks -/
def stB (st : List Int32) (k : Nat) : Int32 := st.reverse.getD k 0
theorem stB_lt {v : Int32} {st : List Int32} {k : Nat} (h : k < st.length) : stB (v :: st) k = stB st k := by
  unfold stB
  rw [List.reverse_cons, List.getD_eq_getElem?_getD, List.getD_eq_getElem?_getD, List.getElem?_append_left (by rw [List.length_reverse]; exact h)]
theorem stB_top {v : Int32} {st : List Int32} : stB (v :: st) st.length = v := by
  unfold stB
  rw [List.reverse_cons, List.getD_eq_getElem?_getD, List.getElem?_append_right (by rw [List.length_reverse]; exact Nat.le_refl _), List.length_reverse, Nat.sub_self]
  rfl
def stkC (j k : Nat) : Prop := j = 28 ∨ (j = 21 ∧ k = 3)
def CSt (st : List Int32) (σ : sgS) : Prop := σ.1 21 3 = nI st.length ∧ ∀ k, k < st.length → σ.1 28 k = stB st k
theorem push_ok {N : Nat} {v : Int32} {st : List Int32} {σ : sgS} (h : CSt st σ) (hl : st.length < 240) : ∃ σ', f_X4_push N v σ = some (0, σ') ∧ CSt (v :: st) σ' ∧ Fr stkC σ σ' := by
  refine ⟨sg_up (sg_up σ 28 st.length v) 21 3 (nI (st.length + 1)), ?_, ⟨up_at, fun k hk => ?_⟩, Fr.tr (Fr.up (Or.inl rfl)) (Fr.up (Or.inr ⟨rfl, rfl⟩))⟩
  · unfold f_X4_push
    rw [h.1]
    simp (disch := omega) only [sg_cr, sg_cl, sg_lb, sg_pf, sg_pl, sg_nz, sg_nzl, sg_nar0, sg_nar1, lt_T, lt_F, le_T, le_F, eq_T, eq_F, ltL_T, ltL_F, leL_T, leL_F, eqL_T, eqL_F, Llt_T, Llt_F, Lle_T, Lle_F, Leq_T, Leq_F, n10_F, n01_F, le0_F, lt0_T, le0_T, eq0_F, lt1_F, nJ_not_neg, nJ_ne_neg, nJ_neg_lt, nJ_neg_le, nJ_le_neg, ↓reduceIte, ld_ok, st_ok, rf_ok, ld_okL, st_okL, nJ_add, nJ_addL, nJ_Ladd, nJ_mul, nJ_mulL, nJ_Lmul, up_ne, h.1]
  · have hk : k < st.length + 1 := hk
    rw [up_ne (by decide), up_get]
    by_cases c : k = st.length
    · rw [if_pos ⟨rfl, c⟩, c, stB_top]
    · rw [if_neg (fun z => c z.2), stB_lt (by omega)]; exact h.2 k (by omega)
theorem pop_ok {N : Nat} {a : Int32} {st : List Int32} {σ : sgS} (h : CSt (a :: st) σ) (hl : st.length < 240) : ∃ σ', f_X4_pop N σ = some (a, σ') ∧ CSt st σ' ∧ Fr stkC σ σ' := by
  have e : σ.1 21 3 = nI (st.length + 1) := h.1
  refine ⟨sg_up σ 21 3 (nI st.length), ?_, ⟨up_at, fun k hk => ?_⟩, Fr.up (Or.inr ⟨rfl, rfl⟩)⟩
  · unfold f_X4_pop
    rw [e]
    simp (disch := omega) only [sg_cr, sg_cl, sg_lb, sg_pf, sg_pl, sg_nz, sg_nzl, sg_nar0, sg_nar1, lt_T, lt_F, le_T, le_F, eq_T, eq_F, ltL_T, ltL_F, leL_T, leL_F, eqL_T, eqL_F, Llt_T, Llt_F, Lle_T, Lle_F, Leq_T, Leq_F, n10_F, n01_F, le0_F, lt0_T, le0_T, eq0_F, lt1_F, nJ_not_neg, nJ_ne_neg, nJ_neg_lt, nJ_neg_le, nJ_le_neg, ↓reduceIte, ld_ok, st_ok, rf_ok, ld_okL, st_okL, nJ_add, nJ_addL, nJ_Ladd, nJ_mul, nJ_mulL, nJ_Lmul, nJ_subL, up_at, up_ne, Nat.add_sub_cancel]
    rw [h.2 st.length (Nat.lt_succ_self _), stB_top]
  · rw [up_ne (by decide), h.2 k (Nat.lt_succ_of_lt hk), stB_lt hk]
/-- the class at item i of the code of law h; letters L -/
def CWx (h n : Nat) (code : List Int32) (L : Nat → Int32) (σ : sgS) : Prop := h < 4 ∧ σ.1 21 5 = nI h ∧ σ.1 27 h = nI n ∧ n ≤ 240 ∧ code.length = n ∧ (∀ k, k < n → σ.1 (23 + h) k = code.getD k 0) ∧ ∀ v, v < 6 → σ.1 50 v = L v
theorem CWx_fr {h n : Nat} {code : List Int32} {L : Nat → Int32} {σ σ' : sgS} (H : CWx h n code L σ) (f : Fr stkC σ σ') : CWx h n code L σ' := by
  obtain ⟨h1, h2, h3, h4, h5, h6, h7⟩ := H
  refine ⟨h1, ?_, ?_, h4, h5, fun k hk => ?_, fun v hv => ?_⟩
  · rw [f 21 5 (by unfold stkC; omega)]; exact h2
  · rw [f 27 h (by unfold stkC; omega)]; exact h3
  · rw [f (23 + h) k (by unfold stkC; omega)]; exact h6 k hk
  · rw [f 50 v (by unfold stkC; omega)]; exact h7 v hv
theorem lwE_num {v : Nat} (h : v < 10000) : lwE (0, nI v) = nI v := rfl
theorem lwE_let {v : Nat} : lwE (1, nI v) = nI (10000 + v) := nJ_Ladd
theorem lwE_sgn {c : Nat} {v : Int32} (h2 : 2 ≤ c) (h11 : c ≤ 11) : ∃ e, 20033 ≤ e ∧ e ≤ 20124 ∧ e ≠ 20059 ∧ e ≠ 20063 ∧ (e = 20033 ↔ c = 9) ∧ lwE (nI c, v) = nI e := by
  have hc : c = 2 ∨ c = 3 ∨ c = 4 ∨ c = 5 ∨ c = 6 ∨ c = 7 ∨ c = 8 ∨ c = 9 ∨ c = 10 ∨ c = 11 := by omega
  rcases hc with rfl | rfl | rfl | rfl | rfl | rfl | rfl | rfl | rfl | rfl
  · exact ⟨20043, by decide, by decide, by decide, by decide, by decide, rfl⟩
  · exact ⟨20045, by decide, by decide, by decide, by decide, by decide, rfl⟩
  · exact ⟨20042, by decide, by decide, by decide, by decide, by decide, rfl⟩
  · exact ⟨20047, by decide, by decide, by decide, by decide, by decide, rfl⟩
  · exact ⟨20061, by decide, by decide, by decide, by decide, by decide, rfl⟩
  · exact ⟨20060, by decide, by decide, by decide, by decide, by decide, rfl⟩
  · exact ⟨20062, by decide, by decide, by decide, by decide, by decide, rfl⟩
  · exact ⟨20033, by decide, by decide, by decide, by decide, by decide, rfl⟩
  · exact ⟨20038, by decide, by decide, by decide, by decide, by decide, rfl⟩
  · exact ⟨20124, by decide, by decide, by decide, by decide, by decide, rfl⟩
set_option maxRecDepth 100000 in
theorem c_item {N h n i : Nat} {code : List Int32} {L : Nat → Int32} {q : Int32 × Int32} {t t' : List Bool} {st : List Int32} {σ : sgS} (H : CWx h n code L σ) (hi : i < n) (hcode : code.getD i 0 = lwE q) (hq : lwI q) (ht : lwTy1 q t = some t') (hT : TyOk t st) (h70 : t.length ≤ 70) (hst : CSt st σ) : ∃ σ', f_X4_worth_L29 N 50 6 h 0 (nI i) σ = some (.inr (.inl (σ', 0, nI (i + 1)))) ∧ CSt (lwSt L q st) σ' ∧ Fr stkC σ σ' := by
  have hlen := TyOk_len t st hT
  obtain ⟨h4, e5, e27, hn, hcl, hcd, hL⟩ := H
  have e6 := hcd i hi
  rw [hcode] at e6
  unfold f_X4_worth_L29
  simp (disch := omega) only [sg_cr, sg_cl, sg_lb, sg_pf, sg_pl, sg_nz, sg_nzl, sg_nar0, sg_nar1, lt_T, lt_F, le_T, le_F, eq_T, eq_F, ltL_T, ltL_F, leL_T, leL_F, eqL_T, eqL_F, Llt_T, Llt_F, Lle_T, Lle_F, Leq_T, Leq_F, n10_F, n01_F, le0_F, lt0_T, le0_T, eq0_F, lt1_F, nJ_not_neg, nJ_ne_neg, nJ_neg_lt, nJ_neg_le, nJ_le_neg, ↓reduceIte, ld_ok, st_ok, rf_ok, ld_okL, st_okL, nJ_add, nJ_addL, nJ_Ladd, nJ_mul, nJ_mulL, nJ_Lmul, e5, e27, e6]
  obtain ⟨c, v⟩ := q
  rcases hq with ⟨e, v', hv, e2⟩ | ⟨e, v', hv, e2⟩ | ⟨c', h2, h11, e⟩
  · have e : c = 0 := e
    have e2 : v = nI v' := e2
    subst e e2
    obtain ⟨σ', p1, p2, p3⟩ := push_ok (N := N) (v := nI v') hst (by omega)
    simp (disch := omega) only [sg_cr, sg_cl, sg_lb, sg_pf, sg_pl, sg_nz, sg_nzl, sg_nar0, sg_nar1, lt_T, lt_F, le_T, le_F, eq_T, eq_F, ltL_T, ltL_F, leL_T, leL_F, eqL_T, eqL_F, Llt_T, Llt_F, Lle_T, Lle_F, Leq_T, Leq_F, n10_F, n01_F, le0_F, lt0_T, le0_T, eq0_F, lt1_F, nJ_not_neg, nJ_ne_neg, nJ_neg_lt, nJ_neg_le, nJ_le_neg, ↓reduceIte, ld_ok, st_ok, rf_ok, ld_okL, st_okL, nJ_add, nJ_addL, nJ_Ladd, nJ_mul, nJ_mulL, nJ_Lmul, lwE_num hv, p1]
    exact ⟨σ', rfl, p2, p3⟩
  · have e : c = 1 := e
    have e2 : v = nI v' := e2
    subst e e2
    obtain ⟨σ', p1, p2, p3⟩ := push_ok (N := N) (v := L v') hst (by omega)
    simp (disch := omega) only [sg_cr, sg_cl, sg_lb, sg_pf, sg_pl, sg_nz, sg_nzl, sg_nar0, sg_nar1, lt_T, lt_F, le_T, le_F, eq_T, eq_F, ltL_T, ltL_F, leL_T, leL_F, eqL_T, eqL_F, Llt_T, Llt_F, Lle_T, Lle_F, Leq_T, Leq_F, n10_F, n01_F, le0_F, lt0_T, le0_T, eq0_F, lt1_F, nJ_not_neg, nJ_ne_neg, nJ_neg_lt, nJ_neg_le, nJ_le_neg, ↓reduceIte, ld_ok, st_ok, rf_ok, ld_okL, st_okL, nJ_add, nJ_addL, nJ_Ladd, nJ_mul, nJ_mulL, nJ_Lmul, lwE_let, nJ_subL, show (Int32.ofNat 6) = nI 6 from rfl, Nat.add_sub_cancel_left, hL v' hv, p1]
    refine ⟨σ', rfl, ?_, p3⟩
    show CSt (L (nI v').toNatClampNeg :: st) σ'
    rw [nJ_clamp (by omega)]
    exact p2
  · have e : c = nI c' := e
    subst e
    obtain ⟨ee, b1, b2, b3, b4, b5, be⟩ := lwE_sgn (v := v) h2 h11
    by_cases h9 : c' = 9
    · subst h9
      have e33 : ee = 20033 := b5.mpr rfl
      subst e33
      obtain ⟨r, rfl, rfl⟩ := lwT1_eq (show lwT1 t = some t' from ht)
      match st, hT, hst, hlen with
      | a :: st, hT, hst, hlen =>
        have hl2 : st.length + 1 ≤ 70 := by simp only [List.length_cons] at hlen h70; omega
        obtain ⟨σ1, p1, p2, p3⟩ := pop_ok (N := N) hst (by omega)
        obtain ⟨σ2, q1, q2, q3⟩ := push_ok (N := N) (v := 1 - a) p2 (by omega)
        simp (disch := omega) only [sg_cr, sg_cl, sg_lb, sg_pf, sg_pl, sg_nz, sg_nzl, sg_nar0, sg_nar1, lt_T, lt_F, le_T, le_F, eq_T, eq_F, ltL_T, ltL_F, leL_T, leL_F, eqL_T, eqL_F, Llt_T, Llt_F, Lle_T, Lle_F, Leq_T, Leq_F, n10_F, n01_F, le0_F, lt0_T, le0_T, eq0_F, lt1_F, nJ_not_neg, nJ_ne_neg, nJ_neg_lt, nJ_neg_le, nJ_le_neg, ↓reduceIte, ld_ok, st_ok, rf_ok, ld_okL, st_okL, nJ_add, nJ_addL, nJ_Ladd, nJ_mul, nJ_mulL, nJ_Lmul, be, nJ_subL, show (Int32.ofNat 6) = nI 6 from rfl, p1, q1]
        exact ⟨σ2, rfl, q2, p3.tr q3⟩
      | [], hT, _, _ => exact hT.elim
    · have hc9 : ee ≠ 20033 := fun z => h9 (b5.mp z)
      have htt : ∃ r, t = lwK c' :: lwK c' :: r := by
        have hc : c' = 2 ∨ c' = 3 ∨ c' = 4 ∨ c' = 5 ∨ c' = 6 ∨ c' = 7 ∨ c' = 8 ∨ c' = 10 ∨ c' = 11 := by omega
        rcases hc with rfl | rfl | rfl | rfl | rfl | rfl | rfl | rfl | rfl
        · obtain ⟨r, e1, -⟩ := lwT2_eq (show lwT2 false false t = some t' from ht); exact ⟨r, e1⟩
        · obtain ⟨r, e1, -⟩ := lwT2_eq (show lwT2 false false t = some t' from ht); exact ⟨r, e1⟩
        · obtain ⟨r, e1, -⟩ := lwT2_eq (show lwT2 false false t = some t' from ht); exact ⟨r, e1⟩
        · obtain ⟨r, e1, -⟩ := lwT2_eq (show lwT2 false false t = some t' from ht); exact ⟨r, e1⟩
        · obtain ⟨r, e1, -⟩ := lwT2_eq (show lwT2 false true t = some t' from ht); exact ⟨r, e1⟩
        · obtain ⟨r, e1, -⟩ := lwT2_eq (show lwT2 false true t = some t' from ht); exact ⟨r, e1⟩
        · obtain ⟨r, e1, -⟩ := lwT2_eq (show lwT2 false true t = some t' from ht); exact ⟨r, e1⟩
        · obtain ⟨r, e1, -⟩ := lwT2_eq (show lwT2 true true t = some t' from ht); exact ⟨r, e1⟩
        · obtain ⟨r, e1, -⟩ := lwT2_eq (show lwT2 true true t = some t' from ht); exact ⟨r, e1⟩
      obtain ⟨r, rfl⟩ := htt
      match st, hT, hst, hlen with
      | a :: b :: st, hT, hst, hlen =>
        have hl2 : st.length + 2 ≤ 70 := by simp only [List.length_cons] at hlen h70; omega
        obtain ⟨σ1, p1, p2, p3⟩ := pop_ok (N := N) hst (by show st.length + 1 < 240; omega)
        obtain ⟨σ2, q1, q2, q3⟩ := pop_ok (N := N) p2 (by omega)
        have hj : f_X4_join N (nI ee - 20000) b a σ2 = some (lwJ (nI c') b a) := by
          have := join_ok (N := N) (σ := σ2) (a := b) (b := a) h2 h11 h9 ⟨hT.2.1, hT.1⟩
          rw [show lwE (nI c', 0) = nI ee from by rw [← be]; unfold lwE; rcases (show c' = 2 ∨ c' = 3 ∨ c' = 4 ∨ c' = 5 ∨ c' = 6 ∨ c' = 7 ∨ c' = 8 ∨ c' = 10 ∨ c' = 11 by omega) with rfl | rfl | rfl | rfl | rfl | rfl | rfl | rfl | rfl <;> rfl] at this
          exact this
        obtain ⟨σ3, r1, r2, r3⟩ := push_ok (N := N) (v := lwJ (nI c') b a) q2 (by omega)
        simp (disch := omega) only [sg_cr, sg_cl, sg_lb, sg_pf, sg_pl, sg_nz, sg_nzl, sg_nar0, sg_nar1, lt_T, lt_F, le_T, le_F, eq_T, eq_F, ltL_T, ltL_F, leL_T, leL_F, eqL_T, eqL_F, Llt_T, Llt_F, Lle_T, Lle_F, Leq_T, Leq_F, n10_F, n01_F, le0_F, lt0_T, le0_T, eq0_F, lt1_F, nJ_not_neg, nJ_ne_neg, nJ_neg_lt, nJ_neg_le, nJ_le_neg, ↓reduceIte, ld_ok, st_ok, rf_ok, ld_okL, st_okL, nJ_add, nJ_addL, nJ_Ladd, nJ_mul, nJ_mulL, nJ_Lmul, be, nJ_subL, show (Int32.ofNat 6) = nI 6 from rfl, p1, q1]
        rw [nJ_subL (by omega)] at hj
        rw [hj]
        simp (disch := omega) only [sg_cr, sg_cl, sg_lb, sg_pf, sg_pl, sg_nz, sg_nzl, sg_nar0, sg_nar1, lt_T, lt_F, le_T, le_F, eq_T, eq_F, ltL_T, ltL_F, leL_T, leL_F, eqL_T, eqL_F, Llt_T, Llt_F, Lle_T, Lle_F, Leq_T, Leq_F, n10_F, n01_F, le0_F, lt0_T, le0_T, eq0_F, lt1_F, nJ_not_neg, nJ_ne_neg, nJ_neg_lt, nJ_neg_le, nJ_le_neg, ↓reduceIte, ld_ok, st_ok, rf_ok, ld_okL, st_okL, nJ_add, nJ_addL, nJ_Ladd, nJ_mul, nJ_mulL, nJ_Lmul, r1]
        refine ⟨σ3, rfl, ?_, (p3.tr q3).tr r3⟩
        have e9 : lwSt L (nI c', v) (a :: b :: st) = lwJ (nI c') b a :: st := by
          rcases (show c' = 2 ∨ c' = 3 ∨ c' = 4 ∨ c' = 5 ∨ c' = 6 ∨ c' = 7 ∨ c' = 8 ∨ c' = 10 ∨ c' = 11 by omega) with rfl | rfl | rfl | rfl | rfl | rfl | rfl | rfl | rfl <;> rfl
        rw [e9]
        exact r2
      | [a], hT, _, _ => exact hT.2.elim
      | [], hT, _, _ => exact hT.elim
