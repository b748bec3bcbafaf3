/-! MOST -/
def sel (lt : Nat → Nat → Bool) : Nat → Nat
  | 0 => 0
  | k + 1 => if lt (sel lt k) (k + 1) = true then k + 1 else sel lt k
theorem sel_le {lt : Nat → Nat → Bool} : ∀ k, sel lt k ≤ k := by
  intro k
  induction k with
  | zero => exact Nat.le_refl _
  | succ k ih =>
    show (if lt (sel lt k) (k + 1) = true then k + 1 else sel lt k) ≤ k + 1
    split <;> omega
/-- a loop from 1 on that takes another where it is more -/
theorem sel_lp {b : Int32 × Int32 → Option (Int32 ⊕ ((Int32 × Int32) ⊕ Int32))} {lt : Nat → Nat → Bool} {m : Nat} (h1 : 1 ≤ m) (h12 : m ≤ 12) (hs : ∀ a k, a < k → k < m → b (nI a, nI k) = some (.inr (.inl ((if lt a k = true then nI k else nI a), nI (k + 1))))) (he : ∀ a, b (a, nI m) = some (.inr (.inr a))) : sg_lp b 10000 ((0, 1)) = some (.inr (nI (sel lt (m - 1)))) := by
  have key := lp_for (b := b) (fun k => (nI (sel lt k), nI (k + 1))) (m - 1) (nI (sel lt (m - 1))) (fun k hk => by
    show b (nI (sel lt k), nI (k + 1)) = some (.inr (.inl (nI (if lt (sel lt k) (k + 1) = true then k + 1 else sel lt k), nI (k + 1 + 1))))
    have := sel_le (lt := lt) k
    rw [hs (sel lt k) (k + 1) (by omega) (by omega)]
    by_cases c : lt (sel lt k) (k + 1) = true
    · rw [if_pos c, if_pos c]
    · rw [if_neg c, if_neg c]) (by
    show b (_, nI (m - 1 + 1)) = _
    rw [show m - 1 + 1 = m by omega]; exact he _) 10000 0 (by omega) (by omega)
  exact key
theorem sub_le0 {a b : Nat} (ha : a < 1000000) (hb : b < 1000000) : (nI a - nI b ≤ 0) = (a ≤ b) := by
  rw [Int32.le_iff_toInt_le, Int32.toInt_sub, nJ_toInt (by omega), nJ_toInt (by omega), show (0 : Int32).toInt = 0 from by decide, Int.bmod_eq_of_le (by omega) (by omega)]
  apply propext
  omega
theorem great_ok {c n m : Nat} {f : Nat → Nat} {σ : sgS} (h1 : 1 ≤ m) (hmn : m ≤ n) (h12 : n ≤ 12) (hf : ∀ k, k < m → σ.1 c k = nI (f k) ∧ f k < 1000000) : f_X11_firstGreatest 10000 c n (nI m) σ = some (nI (sel (fun a b => decide (f a < f b)) (m - 1))) := by
  unfold f_X11_firstGreatest
  rw [sel_lp (lt := fun a b => decide (f a < f b)) h1 (by omega) (fun a k ha hk => by
    show f_X11_firstGreatest_L4 10000 c n (nI m) (nI a) (nI k) σ = _
    have e1 := hf a (by omega)
    have e2 := hf k hk
    unfold f_X11_firstGreatest_L4
    rw [if_neg (by rw [nJ_le (by omega) (by omega)]; omega), if_neg (by show ¬ nI n ≤ nI k; rw [nJ_le (by omega) (by omega)]; omega), ld_ok (by omega) (by omega), ld_ok (by omega) (by omega), e1.1, e2.1, nJ_addL]
    by_cases cc : f a < f k
    · rw [if_neg (by rw [nJ_le (by omega) (by omega)]; omega), if_pos (decide_eq_true cc)]
    · rw [if_pos (by rw [nJ_le (by omega) (by omega)]; omega), if_neg (by rw [decide_eq_true_eq]; exact cc)]) (fun a => by
    show f_X11_firstGreatest_L4 10000 c n (nI m) a (nI m) σ = _
    unfold f_X11_firstGreatest_L4
    rw [if_pos (by rw [nJ_le (by omega) (by omega)]; omega)]), lb_inr]
def farF (K : Cty) (H : Nat → Nat) (X p : Nat) : Nat → Nat
  | 0 => 0
  | k + 1 => if fwW K H X p k < 100000 then max (farF K H X p k) (fwW K H X p k) else farF K H X p k
theorem farF_bd {K : Cty} {H : Nat → Nat} {X p : Nat} (okk : okK K) (oH : okH K H) : ∀ k, farF K H X p k ≤ 3072 := by
  intro k
  induction k with
  | zero => exact Nat.zero_le _
  | succ k ih =>
    have := fwW_bd (X := X) (i := p) (j := k) okk oH
    show (if fwW K H X p k < 100000 then max (farF K H X p k) (fwW K H X p k) else farF K H X p k) ≤ 3072
    split <;> omega
theorem max_ok {a b : Nat} (ha : a < 1000000) (hb : b < 1000000) : (if nI a < nI b then nI b else nI a) = nI (max a b) := by
  by_cases c : a < b
  · rw [if_pos (by rw [nJ_lt (by omega) (by omega)]; exact c), Nat.max_eq_right (by omega)]
  · rw [if_neg (by rw [nJ_lt (by omega) (by omega)]; exact c), Nat.max_eq_left (by omega)]
theorem farC_ok {A : Abs} {H : Nat → Nat} {σ1 τ1 : sgS} {p : Nat} (ok : okA A) (n : netR A H σ1 τ1) (hp : p < cP (aK A)) : f_X5_farthestFrom 10000 (nI p) σ1 = some (nI (farF (aK A) H (sX (aS A)) p (cP (aK A)))) := by
  have hp7 := ok.2.1.1
  obtain ⟨oH, k1, k2, k3, k4, k5, k6⟩ := n
  have key := lp_for (b := fun z : Int32 × Int32 => f_X5_farthestFrom_L4 10000 (nI p) z.1 z.2 σ1) (fun k => (nI (farF (aK A) H (sX (aS A)) p k), nI k)) (cP (aK A)) (nI (farF (aK A) H (sX (aS A)) p (cP (aK A)))) (fun k hk => by
    show f_X5_farthestFrom_L4 10000 (nI p) (nI (farF (aK A) H (sX (aS A)) p k)) (nI k) σ1 = some (.inr (.inl (nI (if fwW (aK A) H (sX (aS A)) p k < 100000 then max (farF (aK A) H (sX (aS A)) p k) (fwW (aK A) H (sX (aS A)) p k) else farF (aK A) H (sX (aS A)) p k), nI (k + 1))))
    have b1 := farF_bd (X := sX (aS A)) (p := p) ok.2.1 oH k
    unfold f_X5_farthestFrom_L4
    rw [k1.1, if_neg (by rw [nJ_le (by omega) (by omega)]; omega), reaches_ok ok.2.1 k3 hp hk, cr_some, nJ_addL]
    by_cases c : fwW (aK A) H (sX (aS A)) p k < 100000
    · rw [if_pos c, if_neg nn10, if_pos c, rf_ok (by omega) (by decide), ld_ok (by omega) (by decide), (k3.1 p k hp hk).2, fwC_lt c, max_ok (by omega) (by omega)]
    · rw [if_neg c, if_pos rfl, if_neg c]) (by
    show f_X5_farthestFrom_L4 10000 (nI p) _ (nI (cP (aK A))) σ1 = _
    unfold f_X5_farthestFrom_L4
    rw [k1.1, if_pos (by rw [nJ_le (by omega) (by omega)]; omega)]) 10000 0 (by omega) (by omega)
  have key : sg_lp (fun z : Int32 × Int32 => f_X5_farthestFrom_L4 10000 (nI p) z.1 z.2 σ1) 10000 ((0, 0)) = _ := key
  unfold f_X5_farthestFrom
  rw [key, lb_inr]
theorem farM_ok {A : Abs} {H : Nat → Nat} {σ1 τ1 : sgS} {p : Nat} (ok : okA A) (n : netR A H σ1 τ1) (hp : p < cP (aK A)) : f_X12_farthestFrom 10000 (nI p) τ1 = some (nI (farF (aK A) H (sX (aS A)) p (cP (aK A)))) := by
  have hp7 := ok.2.1.1
  obtain ⟨oH, k1, k2, k3, k4, k5, k6⟩ := n
  have key := lp_for (b := fun z : Int32 × Int32 => f_X12_farthestFrom_L4 10000 (nI p) z.1 z.2 τ1) (fun k => (nI (farF (aK A) H (sX (aS A)) p k), nI k)) (cP (aK A)) (nI (farF (aK A) H (sX (aS A)) p (cP (aK A)))) (fun k hk => by
    show f_X12_farthestFrom_L4 10000 (nI p) (nI (farF (aK A) H (sX (aS A)) p k)) (nI k) τ1 = some (.inr (.inl (nI (if fwW (aK A) H (sX (aS A)) p k < 100000 then max (farF (aK A) H (sX (aS A)) p k) (fwW (aK A) H (sX (aS A)) p k) else farF (aK A) H (sX (aS A)) p k), nI (k + 1))))
    have b1 := farF_bd (X := sX (aS A)) (p := p) ok.2.1 oH k
    have b2 := fwW_bd (X := sX (aS A)) (i := p) (j := k) ok.2.1 oH
    unfold f_X12_farthestFrom_L4
    rw [k4.1, if_neg (by rw [nJ_le (by omega) (by omega)]; omega), awayOf_ok k6 (by omega) (by omega), cr_some, cr_some, nJ_addL]
    by_cases c : fwW (aK A) H (sX (aS A)) p k < 100000
    · rw [if_neg (by rw [nJ_Lle (by omega) (by decide)]; omega), if_pos c, max_ok (by omega) (by omega)]
    · rw [if_pos (by rw [nJ_Lle (by omega) (by decide)]; omega), if_neg c]) (by
    show f_X12_farthestFrom_L4 10000 (nI p) _ (nI (cP (aK A))) τ1 = _
    unfold f_X12_farthestFrom_L4
    rw [k4.1, if_pos (by rw [nJ_le (by omega) (by omega)]; omega)]) 10000 0 (by omega) (by omega)
  have key : sg_lp (fun z : Int32 × Int32 => f_X12_farthestFrom_L4 10000 (nI p) z.1 z.2 τ1) 10000 ((0, 0)) = _ := key
  unfold f_X12_farthestFrom
  rw [key, lb_inr]
def brg (K : Cty) (O : Nat) : Nat → Nat
  | 0 => 0
  | r + 1 => if O.testBit r = true ∧ mts K (O &&& (O ^^^ 2 ^ r)) (cA K r) (cB K r) = false then brg K O r ||| 2 ^ r else brg K O r
def opH (H : Nat → Nat) (O : Nat) : Nat → Nat
  | 0 => 0
  | r + 1 => if O.testBit r = true then opH H O r + H r else opH H O r
def prt (K : Cty) (O : Nat) : Nat → Nat × Nat
  | 0 => (0, 0)
  | p + 1 => if (prt K O p).2.testBit p = true then prt K O p else ((prt K O p).1 + 1, (prt K O p).2 ||| rch K O p)
theorem or_nI0 {a : Nat} : nI a ||| 0 = nI a := by rw [nJ_0, nI_or, Nat.or_zero]
theorem lw_O36_ok : lw_O36 Rel := by
  intro a1
  refine q_eq (fun A σ τ ok C M => ⟨10000, 10000, ?_⟩)
  have hp7 : cP (aK A) ≤ 7 := ok.2.1.1
  have hr12 := ok.2.1.2.1
  have hs4 := ok.2.1.2.2.1
  have eC := C.2.1
  have eM := M.2.1
  unfold f_X11_most f_X12_most
  by_cases h0 : cP (aK A) = 0
  · rw [isTold_n (by rw [eC.1, h0]), if_pos (show τ.1 0 28 = 0 from by rw [eM.1, h0]; rfl)]
    exact ⟨_, _, _, rfl, rfl, Fr.rf, Fr.rf⟩
  · obtain ⟨H, σ1, τ1, e1, e2, n, f1, f2⟩ := net2 ok C M h0
    have oS := ok.2.2.2.2.2.1 h0
    have hb := ok.2.1.2.2.2.2.1 h0
    have oky4 := ok.2.2.2.1.1
    rw [isTold_y eC.1 h0 (by omega), cr_some, if_neg nn10, if_neg (show ¬ τ.1 0 28 = 0 from by rw [eM.1, eq0_F (by omega) (by omega)]; exact id), e1, cl_some, inL (m := 9) (by decide)]
    rcases nJ_rng a1 (9 + 1) (by decide) with ⟨k, hk, rfl⟩ | h
    · rw [in_y hk (by decide), cr_some, if_neg nn10, e2, cl_some]
      have nn := n
      obtain ⟨oH, k1, k2, k3, k4, k5, k6⟩ := n
      have hX := oS.2.2.2.2.1
      have fin : ∀ (v : Int32) (x y : Option Int32), x = some v → y = some v → ∃ r σ' τ', (sg_cr x fun v => some (v, σ1)) = some (r, σ') ∧ (sg_cr y fun v => some (v, τ1)) = some (r, τ') ∧ Fr scC σ σ' ∧ Fr scM τ τ' := by
        rintro v x y rfl rfl
        exact ⟨v, σ1, τ1, by rw [cr_some], by rw [cr_some], f1, f2⟩
      have topP : ∀ (f : Nat → Nat) (q : Int32), (∀ k, k < cP (aK A) → f k < 1000000) → (∀ a k, a < k → k < cP (aK A) → f_X12_topPlace_L4 10000 q (nI a) (nI k) τ1 = f_X12_topPlace_L4_B70 10000 q (nI a) (nI k) (nI (f k) - nI (f a)) τ1) → f_X12_topPlace 10000 q τ1 = some (nI (sel (fun a b => decide (f a < f b)) (cP (aK A) - 1))) := by
        intro f q hf hst
        unfold f_X12_topPlace
        rw [sel_lp (lt := fun a b => decide (f a < f b)) (m := cP (aK A)) (by omega) (by omega) (fun a k ha hk => by
          show f_X12_topPlace_L4 10000 q (nI a) (nI k) τ1 = _
          have b1 := hf a (by omega)
          have b2 := hf k hk
          rw [hst a k ha hk]
          unfold f_X12_topPlace_L4_B70
          rw [nJ_addL]
          by_cases cc : f a < f k
          · rw [if_neg (by rw [sub_le0 (by omega) (by omega)]; omega), if_pos (decide_eq_true cc)]
          · rw [if_pos (by rw [sub_le0 (by omega) (by omega)]; omega), if_neg (by rw [decide_eq_true_eq]; exact cc)]) (fun a => by
          show f_X12_topPlace_L4 10000 q a (nI (cP (aK A))) τ1 = _
          unfold f_X12_topPlace_L4
          rw [k4.1, if_pos (by rw [nJ_le (by omega) (by omega)]; omega)]), lb_inr]
      have topR : ∀ (f : Nat → Nat) (q : Int32), (∀ k, k < cR (aK A) → f k < 1000000) → (∀ a k, a < k → k < cR (aK A) → f_X12_topRoad_L4 10000 q (nI a) (nI k) τ1 = f_X12_topRoad_L4_B51 10000 q (nI a) (nI k) (nI (f k) - nI (f a)) τ1) → f_X12_topRoad 10000 q τ1 = some (nI (sel (fun a b => decide (f a < f b)) (cR (aK A) - 1))) := by
        intro f q hf hst
        unfold f_X12_topRoad
        rw [sel_lp (lt := fun a b => decide (f a < f b)) (m := cR (aK A)) (by omega) (by omega) (fun a k ha hk => by
          show f_X12_topRoad_L4 10000 q (nI a) (nI k) τ1 = _
          have b1 := hf a (by omega)
          have b2 := hf k hk
          rw [hst a k ha hk]
          unfold f_X12_topRoad_L4_B51
          rw [nJ_addL]
          by_cases cc : f a < f k
          · rw [if_neg (by rw [sub_le0 (by omega) (by omega)]; omega), if_pos (decide_eq_true cc)]
          · rw [if_pos (by rw [sub_le0 (by omega) (by omega)]; omega), if_neg (by rw [decide_eq_true_eq]; exact cc)]) (fun a => by
          show f_X12_topRoad_L4 10000 q a (nI (cR (aK A))) τ1 = _
          unfold f_X12_topRoad_L4
          rw [k4.2.1, if_pos (by rw [nJ_le (by omega) (by omega)]; omega)]), lb_inr]
      have key : k = 0 ∨ k = 1 ∨ k = 2 ∨ k = 3 ∨ k = 4 ∨ k = 5 ∨ k = 6 ∨ k = 7 ∨ k = 8 ∨ k = 9 := by omega
      rcases key with rfl | rfl | rfl | rfl | rfl | rfl | rfl | rfl | rfl | rfl
      · simp (disch := omega) only [lt_T, lt_F, le_T, le_F, eq_T, eq_F, ltL_T, ltL_F, leL_T, leL_F, eqL_T, eqL_F, Llt_T, Llt_F, Lle_T, Lle_F, Leq_T, Leq_F, n10_F, n01_F, le0_F, lt0_T, le0_T, eq0_F, lt1_F, nJ_not_neg, nJ_ne_neg, nJ_neg_lt, nJ_neg_le, nJ_le_neg, ↓reduceIte]
        refine fin _ _ _ (by rw [k1.1]; exact great_ok (f := sC (aS A)) (by omega) (by omega) (by decide) (fun k hk => ⟨k2.2.2.2.2.1 k hk, by have := oS.2.2.2.1 k hk; omega⟩)) (topP (sC (aS A)) _ (fun k hk => by have := oS.2.2.2.1 k hk; omega) (fun a k ha hk => ?_))
        unfold f_X12_topPlace_L4
        rw [k4.1, if_neg (by rw [nJ_le (by omega) (by omega)]; omega), if_pos (show nI 0 = 0 from rfl), nJ_Ladd, nJ_Ladd, ld_ok (by omega) (by decide), ld_ok (by omega) (by decide), k5.2.2.2.2.1 k hk, k5.2.2.2.2.1 a (by omega)]
      · simp (disch := omega) only [lt_T, lt_F, le_T, le_F, eq_T, eq_F, ltL_T, ltL_F, leL_T, leL_F, eqL_T, eqL_F, Llt_T, Llt_F, Lle_T, Lle_F, Leq_T, Leq_F, n10_F, n01_F, le0_F, lt0_T, le0_T, eq0_F, lt1_F, nJ_not_neg, nJ_ne_neg, nJ_neg_lt, nJ_neg_le, nJ_le_neg, ↓reduceIte]
        refine fin _ _ _ (by rw [k1.1]; exact great_ok (f := cU (aK A)) (by omega) (by omega) (by decide) (fun k hk => ⟨k1.2.2.2.2.1 k hk, by have := ok.2.1.2.2.2.2.2.1 k hk; omega⟩)) (topP (cU (aK A)) _ (fun k hk => by have := ok.2.1.2.2.2.2.2.1 k hk; omega) (fun a k ha hk => ?_))
        unfold f_X12_topPlace_L4
        rw [k4.1, if_neg (by rw [nJ_le (by omega) (by omega)]; omega), if_neg (by decide), if_pos (show nI 1 = 1 from rfl), ld_ok (by omega) (by decide), ld_ok (by omega) (by decide), k4.2.2.2.2.1 k hk, k4.2.2.2.2.1 a (by omega)]
      · simp (disch := omega) only [lt_T, lt_F, le_T, le_F, eq_T, eq_F, ltL_T, ltL_F, leL_T, leL_F, eqL_T, eqL_F, Llt_T, Llt_F, Lle_T, Lle_F, Leq_T, Leq_F, n10_F, n01_F, le0_F, lt0_T, le0_T, eq0_F, lt1_F, nJ_not_neg, nJ_ne_neg, nJ_neg_lt, nJ_neg_le, nJ_le_neg, ↓reduceIte]
        refine fin _ _ _ (by rw [k1.2.1]; exact great_ok (f := H) (by omega) (by omega) (by decide) (fun k hk => ⟨k3.2.2 k hk, by have := oH k hk; omega⟩)) (topR H _ (fun k hk => by have := oH k hk; omega) (fun a k ha hk => ?_))
        unfold f_X12_topRoad_L4
        rw [k4.2.1, if_neg (by rw [nJ_le (by omega) (by omega)]; omega), if_neg nn10, ld_ok (by omega) (by decide), ld_ok (by omega) (by decide), k6.2 k hk, k6.2 a (by omega)]
      · simp (disch := omega) only [lt_T, lt_F, le_T, le_F, eq_T, eq_F, ltL_T, ltL_F, leL_T, leL_F, eqL_T, eqL_F, Llt_T, Llt_F, Lle_T, Lle_F, Leq_T, Leq_F, n10_F, n01_F, le0_F, lt0_T, le0_T, eq0_F, lt1_F, nJ_not_neg, nJ_ne_neg, nJ_neg_lt, nJ_neg_le, nJ_le_neg, ↓reduceIte]
        refine fin _ _ _ (by rw [k1.2.1]; exact great_ok (f := sG (aS A)) (by omega) (by omega) (by decide) (fun k hk => ⟨k2.2.2.2.1 k hk, by have := oS.2.2.1 k hk; omega⟩)) (topR (sG (aS A)) _ (fun k hk => by have := oS.2.2.1 k hk; omega) (fun a k ha hk => ?_))
        unfold f_X12_topRoad_L4
        rw [k4.2.1, if_neg (by rw [nJ_le (by omega) (by omega)]; omega), if_pos rfl, nJ_Ladd, nJ_Ladd, ld_ok (by omega) (by decide), ld_ok (by omega) (by decide), k5.2.2.2.1 k hk, k5.2.2.2.1 a (by omega)]
      · simp (disch := omega) only [lt_T, lt_F, le_T, le_F, eq_T, eq_F, ltL_T, ltL_F, leL_T, leL_F, eqL_T, eqL_F, Llt_T, Llt_F, Lle_T, Lle_F, Leq_T, Leq_F, n10_F, n01_F, le0_F, lt0_T, le0_T, eq0_F, lt1_F, nJ_not_neg, nJ_ne_neg, nJ_neg_lt, nJ_neg_le, nJ_le_neg, ↓reduceIte]
        refine fin (nI (sel (fun a b => decide (farF (aK A) H (sX (aS A)) b (cP (aK A)) < farF (aK A) H (sX (aS A)) a (cP (aK A)))) (cP (aK A) - 1))) _ _ ?_ ?_
        · unfold f_X5_middle
          rw [sel_lp (lt := fun a b => decide (farF (aK A) H (sX (aS A)) b (cP (aK A)) < farF (aK A) H (sX (aS A)) a (cP (aK A)))) (m := cP (aK A)) (by omega) (by omega) (fun a k ha hk => by
            show f_X5_middle_L4 10000 (nI a) (nI k) σ1 = _
            have b1 := farF_bd (X := sX (aS A)) (p := a) ok.2.1 oH (cP (aK A))
            have b2 := farF_bd (X := sX (aS A)) (p := k) ok.2.1 oH (cP (aK A))
            unfold f_X5_middle_L4
            rw [k1.1, if_neg (by rw [nJ_le (by omega) (by omega)]; omega), farC_ok ok nn hk, farC_ok ok nn (show a < cP (aK A) by omega), cr_some, cr_some, nJ_addL]
            by_cases cc : farF (aK A) H (sX (aS A)) k (cP (aK A)) < farF (aK A) H (sX (aS A)) a (cP (aK A))
            · rw [if_neg (by rw [nJ_le (by omega) (by omega)]; omega), if_pos (decide_eq_true cc)]
            · rw [if_pos (by rw [nJ_le (by omega) (by omega)]; omega), if_neg (by rw [decide_eq_true_eq]; exact cc)]) (fun a => by
            show f_X5_middle_L4 10000 a (nI (cP (aK A))) σ1 = _
            unfold f_X5_middle_L4
            rw [k1.1, if_pos (by rw [nJ_le (by omega) (by omega)]; omega)]), lb_inr]
        · unfold f_X12_topPlace
          rw [sel_lp (lt := fun a b => decide (farF (aK A) H (sX (aS A)) b (cP (aK A)) < farF (aK A) H (sX (aS A)) a (cP (aK A)))) (m := cP (aK A)) (by omega) (by omega) (fun a k ha hk => by
            show f_X12_topPlace_L4 10000 (nI 4) (nI a) (nI k) τ1 = _
            have b1 := farF_bd (X := sX (aS A)) (p := a) ok.2.1 oH (cP (aK A))
            have b2 := farF_bd (X := sX (aS A)) (p := k) ok.2.1 oH (cP (aK A))
            unfold f_X12_topPlace_L4 f_X12_topPlace_L4_B70
            rw [k4.1, if_neg (by rw [nJ_le (by omega) (by omega)]; omega), if_neg (by decide), if_neg (by decide), farM_ok ok nn hk, farM_ok ok nn (show a < cP (aK A) by omega), cr_some, cr_some, nJ_addL]
            by_cases cc : farF (aK A) H (sX (aS A)) k (cP (aK A)) < farF (aK A) H (sX (aS A)) a (cP (aK A))
            · rw [if_neg (by rw [sub_le0 (by omega) (by omega)]; omega), if_pos (decide_eq_true cc)]
            · rw [if_pos (by rw [sub_le0 (by omega) (by omega)]; omega), if_neg (by rw [decide_eq_true_eq]; exact cc)]) (fun a => by
            show f_X12_topPlace_L4 10000 (nI 4) a (nI (cP (aK A))) τ1 = _
            unfold f_X12_topPlace_L4
            rw [k4.1, if_pos (by rw [nJ_le (by omega) (by omega)]; omega)]), lb_inr]
      · simp (disch := omega) only [lt_T, lt_F, le_T, le_F, eq_T, eq_F, ltL_T, ltL_F, leL_T, leL_F, eqL_T, eqL_F, Llt_T, Llt_F, Lle_T, Lle_F, Leq_T, Leq_F, n10_F, n01_F, le0_F, lt0_T, le0_T, eq0_F, lt1_F, nJ_not_neg, nJ_ne_neg, nJ_neg_lt, nJ_neg_le, nJ_le_neg, ↓reduceIte]
        refine fin (nI (brg (aK A) (opn (aK A) (sX (aS A))) (cR (aK A)))) _ _ ?_ ?_
        · have key := lp_for (b := fun z : Int32 × Int32 => f_X5_bridges_L4 10000 z.1 z.2 σ1) (fun r => (nI (brg (aK A) (opn (aK A) (sX (aS A))) r), nI r)) (cR (aK A)) (nI (brg (aK A) (opn (aK A) (sX (aS A))) (cR (aK A)))) (fun r hr => by
            show f_X5_bridges_L4 10000 (nI (brg (aK A) (opn (aK A) (sX (aS A))) r)) (nI r) σ1 = some (.inr (.inl (nI (if (opn (aK A) (sX (aS A))).testBit r = true ∧ mts (aK A) (opn (aK A) (sX (aS A)) &&& (opn (aK A) (sX (aS A)) ^^^ 2 ^ r)) (cA (aK A) r) (cB (aK A) r) = false then brg (aK A) (opn (aK A) (sX (aS A))) r ||| 2 ^ r else brg (aK A) (opn (aK A) (sX (aS A))) r), nI (r + 1))))
            have hc := ok.2.1.2.2.2.2.2.2.1 r hr
            obtain ⟨x1, x2, -, -⟩ := k1.2.2.2.2.2.1 r hr
            have eb : nI (opn (aK A) (sX (aS A))) &&& nI (2 ^ r) = if (opn (aK A) (sX (aS A))).testBit r then nI (2 ^ r) else 0 := by
              rw [nI_and]
              cases hbit : (opn (aK A) (sX (aS A))).testBit r with
              | true =>
                rw [if_pos rfl]
                congr 1
                apply Nat.eq_of_testBit_eq
                intro j
                rw [Nat.testBit_and, Nat.testBit_two_pow]
                by_cases cj : r = j
                · subst cj; rw [hbit]; rfl
                · rw [decide_eq_false cj, Bool.and_false]
              | false =>
                rw [if_neg (by decide), nJ_0]
                congr 1
                apply Nat.eq_of_testBit_eq
                intro j
                rw [Nat.zero_testBit, Nat.testBit_and, Nat.testBit_two_pow]
                by_cases cj : r = j
                · subst cj; rw [hbit]; rfl
                · rw [decide_eq_false cj, Bool.and_false]
            have h2r : 2 ^ r ≤ 4096 := two12 (by omega)
            have h2p : 1 ≤ 2 ^ r := Nat.one_le_two_pow
            unfold f_X5_bridges_L4
            rw [k1.2.1, if_neg (by rw [nJ_le (by omega) (by omega)]; omega), k3.2.1, shl_1 (by omega), eb, ld_ok (by omega) (by decide), ld_ok (by omega) (by decide), x1, x2, nJ_addL]
            cases hbit : (opn (aK A) (sX (aS A))).testBit r with
            | true =>
              rw [if_pos rfl, if_neg (by rw [eq0_F (by omega) (by omega)]; exact id), and_not, meets_ok (by decide) ok.2.1 k1 hc.1 hc.2.1, cr_some, nI_or]
              cases mts (aK A) (opn (aK A) (sX (aS A)) &&& (opn (aK A) (sX (aS A)) ^^^ 2 ^ r)) (cA (aK A) r) (cB (aK A) r) <;> rfl
            | false => rfl) (by
            show f_X5_bridges_L4 10000 _ (nI (cR (aK A))) σ1 = _
            unfold f_X5_bridges_L4
            rw [k1.2.1, if_pos (by rw [nJ_le (by omega) (by omega)]; omega)]) 10000 0 (by omega) (by omega)
          have key : sg_lp (fun z : Int32 × Int32 => f_X5_bridges_L4 10000 z.1 z.2 σ1) 10000 ((0, 0)) = _ := key
          unfold f_X5_bridges
          rw [key, lb_inr]
        · have key := lp_for (b := fun z : Int32 × Int32 => f_X12_bridges_L4 10000 z.1 z.2 τ1) (fun r => (nI (brg (aK A) (opn (aK A) (sX (aS A))) r), nI r)) (cR (aK A)) (nI (brg (aK A) (opn (aK A) (sX (aS A))) (cR (aK A)))) (fun r hr => by
            show f_X12_bridges_L4 10000 (nI (brg (aK A) (opn (aK A) (sX (aS A))) r)) (nI r) τ1 = some (.inr (.inl (nI (if (opn (aK A) (sX (aS A))).testBit r = true ∧ mts (aK A) (opn (aK A) (sX (aS A)) &&& (opn (aK A) (sX (aS A)) ^^^ 2 ^ r)) (cA (aK A) r) (cB (aK A) r) = false then brg (aK A) (opn (aK A) (sX (aS A))) r ||| 2 ^ r else brg (aK A) (opn (aK A) (sX (aS A))) r), nI (r + 1))))
            have hc := ok.2.1.2.2.2.2.2.2.1 r hr
            obtain ⟨x1, x2, -, -⟩ := k4.2.2.2.2.2.1 r hr
            have o0 : f_X12_of 10000 (nI r) 0 τ1 = some (nI (cA (aK A) r)) := of_ok (k := 0) (by omega) x1
            have o1 : f_X12_of 10000 (nI r) 1 τ1 = some (nI (cB (aK A) r)) := of_ok (k := 1) (by omega) x2
            have hcl : f_X12_isClosed 10000 (nI r) τ1 = some (if (sX (aS A)).testBit r then 1 else 0) := by
              unfold f_X12_isClosed
              rw [ld_okL (by decide) (by decide), k5.2.2.2.2.2.1, has_nI (by omega)]
              cases (sX (aS A)).testBit r <;> rfl
            unfold f_X12_bridges_L4
            rw [k4.2.1, if_neg (by rw [nJ_le (by omega) (by omega)]; omega), hcl, o0, o1, openOnes_ok ok.2.1 k4 k5.2.2.2.2.2.1 hX, shl_1 (by omega), opn_bit hX, decide_eq_true hr, nJ_addL]
            simp only [cr_some, or_nI0]
            rw [and_not, reachBy_ok (by decide) ok.2.1 k4 hc.1]
            simp only [cr_some]
            rw [has_nI (by omega), nI_or]
            simp only [cr_some]
            unfold mts
            cases (sX (aS A)).testBit r <;> cases (rch (aK A) (opn (aK A) (sX (aS A)) &&& (opn (aK A) (sX (aS A)) ^^^ 2 ^ r)) (cA (aK A) r)).testBit (cB (aK A) r) <;> rfl) (by
            show f_X12_bridges_L4 10000 _ (nI (cR (aK A))) τ1 = _
            unfold f_X12_bridges_L4
            rw [k4.2.1, if_pos (by rw [nJ_le (by omega) (by omega)]; omega)]) 10000 0 (by omega) (by omega)
          have key : sg_lp (fun z : Int32 × Int32 => f_X12_bridges_L4 10000 z.1 z.2 τ1) 10000 ((0, 0)) = _ := key
          unfold f_X12_bridges
          rw [key, lb_inr]
      · simp (disch := omega) only [lt_T, lt_F, le_T, le_F, eq_T, eq_F, ltL_T, ltL_F, leL_T, leL_F, eqL_T, eqL_F, Llt_T, Llt_F, Lle_T, Lle_F, Leq_T, Leq_F, n10_F, n01_F, le0_F, lt0_T, le0_T, eq0_F, lt1_F, nJ_not_neg, nJ_ne_neg, nJ_neg_lt, nJ_neg_le, nJ_le_neg, ↓reduceIte]
        rw [k2.2.2.2.2.2.1, ld_okL (by decide) (by decide), k5.2.2.2.2.2.1]
        exact ⟨_, _, _, rfl, rfl, f1, f2⟩
      · simp (disch := omega) only [lt_T, lt_F, le_T, le_F, eq_T, eq_F, ltL_T, ltL_F, leL_T, leL_F, eqL_T, eqL_F, Llt_T, Llt_F, Lle_T, Lle_F, Leq_T, Leq_F, n10_F, n01_F, le0_F, lt0_T, le0_T, eq0_F, lt1_F, nJ_not_neg, nJ_ne_neg, nJ_neg_lt, nJ_neg_le, nJ_le_neg, ↓reduceIte]
        exact fin _ _ _ (setsOnWay_ok (by decide) ok.2.1 oS oky4 k2) (onWay_ok (by decide) ok.2.1 oS oky4 k4.2.2.1 (fun w hw => k5.2.1 w hw))
      · simp (disch := omega) only [lt_T, lt_F, le_T, le_F, eq_T, eq_F, ltL_T, ltL_F, leL_T, leL_F, eqL_T, eqL_F, Llt_T, Llt_F, Lle_T, Lle_F, Leq_T, Leq_F, n10_F, n01_F, le0_F, lt0_T, le0_T, eq0_F, lt1_F, nJ_not_neg, nJ_ne_neg, nJ_neg_lt, nJ_neg_le, nJ_le_neg, ↓reduceIte]
        refine fin (nI (opH H (opn (aK A) (sX (aS A))) (cR (aK A)))) _ _ ?_ ?_
        · have key := lp_for (b := fun z : Int32 × Int32 => f_X5_openHours_L4 10000 z.1 z.2 σ1) (fun r => (nI (opH H (opn (aK A) (sX (aS A))) r), nI r)) (cR (aK A)) (nI (opH H (opn (aK A) (sX (aS A))) (cR (aK A)))) (fun r hr => by
            show f_X5_openHours_L4 10000 (nI (opH H (opn (aK A) (sX (aS A))) r)) (nI r) σ1 = some (.inr (.inl (nI (if (opn (aK A) (sX (aS A))).testBit r = true then opH H (opn (aK A) (sX (aS A))) r + H r else opH H (opn (aK A) (sX (aS A))) r), nI (r + 1))))
            unfold f_X5_openHours_L4
            rw [k1.2.1, if_neg (by rw [nJ_le (by omega) (by omega)]; omega), k3.2.1, shr_nI (by omega), ld_ok (by omega) (by decide), k3.2.2 r hr, nJ_addL, nJ_add]
            cases (opn (aK A) (sX (aS A))).testBit r <;> rfl) (by
            show f_X5_openHours_L4 10000 _ (nI (cR (aK A))) σ1 = _
            unfold f_X5_openHours_L4
            rw [k1.2.1, if_pos (by rw [nJ_le (by omega) (by omega)]; omega)]) 10000 0 (by omega) (by omega)
          have key : sg_lp (fun z : Int32 × Int32 => f_X5_openHours_L4 10000 z.1 z.2 σ1) 10000 ((0, 0)) = _ := key
          unfold f_X5_openHours
          rw [key, lb_inr]
        · have key := lp_for (b := fun z : Int32 × Int32 => f_X12_openLength_L4 10000 z.1 z.2 τ1) (fun r => (nI (opH H (opn (aK A) (sX (aS A))) r), nI r)) (cR (aK A)) (nI (opH H (opn (aK A) (sX (aS A))) (cR (aK A)))) (fun r hr => by
            show f_X12_openLength_L4 10000 (nI (opH H (opn (aK A) (sX (aS A))) r)) (nI r) τ1 = some (.inr (.inl (nI (if (opn (aK A) (sX (aS A))).testBit r = true then opH H (opn (aK A) (sX (aS A))) r + H r else opH H (opn (aK A) (sX (aS A))) r), nI (r + 1))))
            have hcl : f_X12_isClosed 10000 (nI r) τ1 = some (if (sX (aS A)).testBit r then 1 else 0) := by
              unfold f_X12_isClosed
              rw [ld_okL (by decide) (by decide), k5.2.2.2.2.2.1, has_nI (by omega)]
              cases (sX (aS A)).testBit r <;> rfl
            unfold f_X12_openLength_L4
            rw [k4.2.1, if_neg (by rw [nJ_le (by omega) (by omega)]; omega), hcl, ld_ok (by omega) (by decide), k6.2 r hr, opn_bit hX, decide_eq_true hr, cr_some, nJ_addL, nJ_addL, nJ_add, Nat.add_zero]
            cases (sX (aS A)).testBit r <;> rfl) (by
            show f_X12_openLength_L4 10000 _ (nI (cR (aK A))) τ1 = _
            unfold f_X12_openLength_L4
            rw [k4.2.1, if_pos (by rw [nJ_le (by omega) (by omega)]; omega)]) 10000 0 (by omega) (by omega)
          have key : sg_lp (fun z : Int32 × Int32 => f_X12_openLength_L4 10000 z.1 z.2 τ1) 10000 ((0, 0)) = _ := key
          unfold f_X12_openLength
          rw [key, lb_inr]
      · simp (disch := omega) only [lt_T, lt_F, le_T, le_F, eq_T, eq_F, ltL_T, ltL_F, leL_T, leL_F, eqL_T, eqL_F, Llt_T, Llt_F, Lle_T, Lle_F, Leq_T, Leq_F, n10_F, n01_F, le0_F, lt0_T, le0_T, eq0_F, lt1_F, nJ_not_neg, nJ_ne_neg, nJ_neg_lt, nJ_neg_le, nJ_le_neg, ↓reduceIte]
        refine fin (nI (prt (aK A) (opn (aK A) (sX (aS A))) (cP (aK A))).1) _ _ ?_ ?_
        · have key := lp_for (b := fun z : Int32 × Int32 × Int32 => f_X5_parts_L6 10000 z.1 z.2.1 z.2.2 σ1) (fun p => (nI (prt (aK A) (opn (aK A) (sX (aS A))) p).1, nI (prt (aK A) (opn (aK A) (sX (aS A))) p).2, nI p)) (cP (aK A)) (nI (prt (aK A) (opn (aK A) (sX (aS A))) (cP (aK A))).1) (fun p hp => by
            show f_X5_parts_L6 10000 (nI (prt (aK A) (opn (aK A) (sX (aS A))) p).1) (nI (prt (aK A) (opn (aK A) (sX (aS A))) p).2) (nI p) σ1 = some (.inr (.inl (nI (if (prt (aK A) (opn (aK A) (sX (aS A))) p).2.testBit p = true then prt (aK A) (opn (aK A) (sX (aS A))) p else ((prt (aK A) (opn (aK A) (sX (aS A))) p).1 + 1, (prt (aK A) (opn (aK A) (sX (aS A))) p).2 ||| rch (aK A) (opn (aK A) (sX (aS A))) p)).1, nI (if (prt (aK A) (opn (aK A) (sX (aS A))) p).2.testBit p = true then prt (aK A) (opn (aK A) (sX (aS A))) p else ((prt (aK A) (opn (aK A) (sX (aS A))) p).1 + 1, (prt (aK A) (opn (aK A) (sX (aS A))) p).2 ||| rch (aK A) (opn (aK A) (sX (aS A))) p)).2, nI (p + 1))))
            unfold f_X5_parts_L6
            rw [k1.1, if_neg (by rw [nJ_le (by omega) (by omega)]; omega), k3.2.1, shr_nI (by omega), reachedFrom_ok (by decide) ok.2.1 k1 hp, cr_some, nI_or, nJ_addL, nJ_addL]
            cases (prt (aK A) (opn (aK A) (sX (aS A))) p).2.testBit p <;> rfl) (by
            show f_X5_parts_L6 10000 _ _ (nI (cP (aK A))) σ1 = _
            unfold f_X5_parts_L6
            rw [k1.1, if_pos (by rw [nJ_le (by omega) (by omega)]; omega)]) 10000 0 (by omega) (by omega)
          have key : sg_lp (fun z : Int32 × Int32 × Int32 => f_X5_parts_L6 10000 z.1 z.2.1 z.2.2 σ1) 10000 ((0, 0, 0)) = _ := key
          unfold f_X5_parts
          rw [key, lb_inr]
        · have key := lp_for (b := fun z : Int32 × Int32 × Int32 => f_X12_parts_L6 10000 z.1 z.2.1 z.2.2 τ1) (fun p => (nI (prt (aK A) (opn (aK A) (sX (aS A))) p).1, nI (prt (aK A) (opn (aK A) (sX (aS A))) p).2, nI p)) (cP (aK A)) (nI (prt (aK A) (opn (aK A) (sX (aS A))) (cP (aK A))).1) (fun p hp => by
            show f_X12_parts_L6 10000 (nI (prt (aK A) (opn (aK A) (sX (aS A))) p).1) (nI (prt (aK A) (opn (aK A) (sX (aS A))) p).2) (nI p) τ1 = some (.inr (.inl (nI (if (prt (aK A) (opn (aK A) (sX (aS A))) p).2.testBit p = true then prt (aK A) (opn (aK A) (sX (aS A))) p else ((prt (aK A) (opn (aK A) (sX (aS A))) p).1 + 1, (prt (aK A) (opn (aK A) (sX (aS A))) p).2 ||| rch (aK A) (opn (aK A) (sX (aS A))) p)).1, nI (if (prt (aK A) (opn (aK A) (sX (aS A))) p).2.testBit p = true then prt (aK A) (opn (aK A) (sX (aS A))) p else ((prt (aK A) (opn (aK A) (sX (aS A))) p).1 + 1, (prt (aK A) (opn (aK A) (sX (aS A))) p).2 ||| rch (aK A) (opn (aK A) (sX (aS A))) p)).2, nI (p + 1))))
            unfold f_X12_parts_L6
            rw [k4.1, if_neg (by rw [nJ_le (by omega) (by omega)]; omega), has_nI (by omega), openOnes_ok ok.2.1 k4 k5.2.2.2.2.2.1 hX, cr_some, cr_some, reachBy_ok (by decide) ok.2.1 k4 hp, cr_some, nI_or, nJ_addL, nJ_addL]
            cases (prt (aK A) (opn (aK A) (sX (aS A))) p).2.testBit p <;> rfl) (by
            show f_X12_parts_L6 10000 _ _ (nI (cP (aK A))) τ1 = _
            unfold f_X12_parts_L6
            rw [k4.1, if_pos (by rw [nJ_le (by omega) (by omega)]; omega)]) 10000 0 (by omega) (by omega)
          have key : sg_lp (fun z : Int32 × Int32 × Int32 => f_X12_parts_L6 10000 z.1 z.2.1 z.2.2 τ1) 10000 ((0, 0, 0)) = _ := key
          unfold f_X12_parts
          rw [key, lb_inr]
    · rw [in_n h (by decide), cr_some, if_pos rfl]
      have ne : ∀ n, n < 10 → a1 ≠ nI n := by
        intro n hn e
        subst e
        rcases h with h | h
        · rw [nJ_not_neg (by omega)] at h; exact h
        · rw [nJ_le (by decide) (by omega)] at h; omega
      have n0 : ¬ a1 = 0 := ne 0 (by decide)
      have n1 : ¬ a1 = 1 := ne 1 (by decide)
      have n2 : ¬ a1 = 2 := ne 2 (by decide)
      have n3 : ¬ a1 = 3 := ne 3 (by decide)
      have n4 : ¬ a1 = 4 := ne 4 (by decide)
      have n5 : ¬ a1 = 5 := ne 5 (by decide)
      have n6 : ¬ a1 = 6 := ne 6 (by decide)
      have n7 : ¬ a1 = 7 := ne 7 (by decide)
      have n8 : ¬ a1 = 8 := ne 8 (by decide)
      have n9 : ¬ a1 = 9 := ne 9 (by decide)
      simp only [n0, n1, n2, n3, n4, n5, n6, n7, n8, n9, ↓reduceIte]
      exact ⟨_, _, _, rfl, rfl, f1, Fr.rf⟩
