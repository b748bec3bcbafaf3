/-! DEAD, PARTED, JOINED, ODDS -/
theorem hasPlaces_y {N p q n : Nat} {σ : sgS} (e : σ.1 3 3 = nI n) (hp : p < n) (hq : q < n) (hn : n < 2147483648) : f_X0_hasPlaces N 3 (nI p) (nI q) σ = some 1 := by
  unfold f_X0_hasPlaces
  rw [hasPlace_y e hp hn, hasPlace_y e hq hn]; rfl
theorem hasPlaces_n1 {N n : Nat} {x y : Int32} {σ : sgS} (e : σ.1 3 3 = nI n) (h : x < 0 ∨ nI n ≤ x) : f_X0_hasPlaces N 3 x y σ = some 0 := by
  unfold f_X0_hasPlaces
  rw [hasPlace_n e h]; rfl
theorem hasPlaces_n2 {N p n : Nat} {y : Int32} {σ : sgS} (e : σ.1 3 3 = nI n) (hp : p < n) (hn : n < 2147483648) (h : y < 0 ∨ nI n ≤ y) : f_X0_hasPlaces N 3 (nI p) y σ = some 0 := by
  unfold f_X0_hasPlaces
  rw [hasPlace_y e hp hn, hasPlace_n e h]; rfl
theorem areTwo_y {N p q n : Nat} {τ : sgS} (e : τ.1 0 28 = nI n) (hp : p < n) (hq : q < n) (hn : n < 2147483648) (hne : p ≠ q) : f_X12_areTwo N (nI p) (nI q) τ = some 1 := by
  unfold f_X12_areTwo
  rw [isPlace_y e hp hn, isPlace_y e hq hn]
  simp (disch := omega) only [cr_some, cl_some, lb_inr, lb_inl, pf_eq, pl_eq, nz_4, nz_7, nz_2, nz_40, nz_100, sg_nar0, sg_nar1, lt_T, lt_F, le_T, le_F, eq_T, eq_F, ltL_T, ltL_F, leL_T, leL_F, eqL_T, eqL_F, Llt_T, Llt_F, Lle_T, Lle_F, Leq_T, Leq_F, n10_F, n01_F, le0_F, lt0_T, le0_T, eq0_F, lt1_F, nJ_not_neg, nJ_ne_neg, nJ_neg_lt, nJ_neg_le, nJ_le_neg, ↓reduceIte, ld_ok, st_ok, rf_ok, ld_okL, st_okL, nJ_add, nJ_addL, nJ_Ladd, nJ_mul, nJ_mulL, nJ_Lmul]
theorem areTwo_s {N p n : Nat} {τ : sgS} (e : τ.1 0 28 = nI n) (hp : p < n) (hn : n < 2147483648) : f_X12_areTwo N (nI p) (nI p) τ = some 0 := by
  unfold f_X12_areTwo
  rw [isPlace_y e hp hn]
  simp (disch := omega) only [cr_some, cl_some, lb_inr, lb_inl, pf_eq, pl_eq, nz_4, nz_7, nz_2, nz_40, nz_100, sg_nar0, sg_nar1, lt_T, lt_F, le_T, le_F, eq_T, eq_F, ltL_T, ltL_F, leL_T, leL_F, eqL_T, eqL_F, Llt_T, Llt_F, Lle_T, Lle_F, Leq_T, Leq_F, n10_F, n01_F, le0_F, lt0_T, le0_T, eq0_F, lt1_F, nJ_not_neg, nJ_ne_neg, nJ_neg_lt, nJ_neg_le, nJ_le_neg, ↓reduceIte, ld_ok, st_ok, rf_ok, ld_okL, st_okL, nJ_add, nJ_addL, nJ_Ladd, nJ_mul, nJ_mulL, nJ_Lmul]
theorem areTwo_n1 {N n : Nat} {x y : Int32} {τ : sgS} (e : τ.1 0 28 = nI n) (hn : n < 2147483648) (h : x < 0 ∨ nI n ≤ x) : f_X12_areTwo N x y τ = some 0 := by
  unfold f_X12_areTwo
  rw [isPlace_n e h hn]; rfl
theorem areTwo_n2 {N p n : Nat} {y : Int32} {τ : sgS} (e : τ.1 0 28 = nI n) (hp : p < n) (hn : n < 2147483648) (h : y < 0 ∨ nI n ≤ y) : f_X12_areTwo N (nI p) y τ = some 0 := by
  unfold f_X12_areTwo
  rw [isPlace_y e hp hn, isPlace_n e h hn]; rfl
theorem openC_ok {N X : Nat} {K : Cty} {σ : sgS} (okk : okK K) (hK : CK K σ) (h5 : σ.1 37 5 = nI X) (hX : X < 2 ^ cR K) : f_X0_allRoads N 3 σ = some ((1 : Int32) <<< (nI (cR K) &&& 31) - 1) ∧ ((1 : Int32) <<< (nI (cR K) &&& 31) - 1) &&& (σ.1 37 5 ^^^ (-1)) = nI (opn K X) := by
  refine ⟨?_, by rw [h5]; exact opn_ok okk.2.1 hX⟩
  unfold f_X0_allRoads
  rw [hK.2.1]
theorem lw_O34_ok : lw_O34 Rel := by
  intro a1
  refine ro_eq (fun A σ τ ok C M => ⟨10000, 10000, ?_⟩)
  have hp : cP (aK A) ≤ 7 := ok.2.1.1
  have eC := C.2.1
  have eM := M.2.1
  unfold f_X11_dead f_X12_dead
  rcases nJ_rng a1 (cP (aK A)) (by omega) with ⟨k, hk, rfl⟩ | h
  · have h0 : cP (aK A) ≠ 0 := by omega
    have e1 := C.2.2.2.2.1 h0
    have e2 := M.2.2.2.2.1 h0
    have hX := (ok.2.2.2.2.2.1 h0).2.2.2.2.1
    obtain ⟨o1, o2⟩ := openC_ok (N := 10000) ok.2.1 eC e1.2.2.2.2.2.1 hX
    rw [hasPlace_y eC.1 hk (by omega), isPlace_y eM.1 hk (by omega), o1, openOnes_ok ok.2.1 eM e2.2.2.2.2.2.1 hX]
    simp only [cr_some]
    rw [o2, reachedFrom_ok (by decide) ok.2.1 eC hk, reachBy_ok (by decide) ok.2.1 eM hk]
    simp only [cr_some]
    rw [bc_ok, bc_ok, eC.1, eM.1]
    exact ⟨_, rfl, rfl⟩
  · rw [hasPlace_n eC.1 h, isPlace_n eM.1 h (by omega)]
    exact ⟨_, rfl, rfl⟩
set_option maxRecDepth 100000 in
theorem bc_cnt {c : Nat} (h : c < 4096) : bcF (nI c) = nI (cntB c 12) := by
  have key : ∀ c : Fin 4096, bcF (nI c.val) = nI (cntB c.val 12) := by decide +kernel
  exact key ⟨c, h⟩
/-- the first of the fewest for which P: 0 none, else its number and one -/
def few (P : Nat → Bool) : Nat → Nat
  | 0 => 0
  | k + 1 => if P k = true ∧ (few P k = 0 ∨ cntB k 12 < cntB (few P k - 1) 12) then k + 1 else few P k
theorem few_le {P : Nat → Bool} : ∀ k, few P k ≤ k := by
  intro k
  induction k with
  | zero => exact Nat.le_refl _
  | succ k ih =>
    show (if P k = true ∧ (few P k = 0 ∨ cntB k 12 < cntB (few P k - 1) 12) then k + 1 else few P k) ≤ k + 1
    split <;> omega
def isSub (a b : Nat) : Bool := decide (a &&& (a ^^^ b) = 0)
theorem isSub_iff {a b : Nat} : isSub a b = true ↔ sub a b := by
  unfold isSub
  rw [decide_eq_true_eq]
  constructor
  · intro h k hk
    have := congrArg (fun x => x.testBit k) h
    simp only [Nat.testBit_and, Nat.testBit_xor, Nat.zero_testBit, hk, Bool.true_and] at this
    cases hb : b.testBit k with
    | true => rfl
    | false => rw [hb] at this; cases this
  · intro h
    apply Nat.eq_of_testBit_eq
    intro k
    rw [Nat.zero_testBit, Nat.testBit_and, Nat.testBit_xor]
    cases ha : a.testBit k with
    | true => rw [h k ha]; rfl
    | false => rfl
theorem sub_xor {a b : Nat} (h : sub a b) : b &&& (b ^^^ a) = b ^^^ a := by
  apply Nat.eq_of_testBit_eq
  intro k
  rw [Nat.testBit_and, Nat.testBit_xor]
  cases ha : a.testBit k with
  | true => rw [h k ha]; rfl
  | false => cases b.testBit k <;> rfl
theorem cntB_ne {a b : Nat} (hs : sub a b) (hb : b < 4096) (h : cntB b 12 ≤ cntB a 12) : a = b := by
  apply Classical.byContradiction
  intro hne
  obtain ⟨k, hk, h1, h2⟩ := sub_ne (n := 12) hs hb (fun e => hne e.symm)
  have := cntB_lt hs h1 h2 12 hk
  omega
/-- the reference's search -/
def pM (K : Cty) (F O p q : Nat) (w : Bool) (k : Nat) : Bool := isSub k F && (mts K (O ^^^ k) p q != w)
theorem two12 {r : Nat} (h : r ≤ 12) : 2 ^ r ≤ 4096 := Nat.pow_le_pow_right (n := 2) (by decide) h
theorem fewestOf_ok {N X F p q : Nat} {w : Bool} {K : Cty} {τ : sgS} (hN : 10000 ≤ N) (okk : okK K) (hK : MK K τ) (h31 : τ.1 21 31 = nI X) (hX : X < 2 ^ cR K) (hp : p < cP K) (hq : q < cP K) : f_X12_fewestOf N (nI F) (nI p) (nI q) (if w then 1 else 0) τ = some (wI (few (pM K F (opn K X) p q w) (2 ^ cR K))) := by
  have hr12 := okk.2.1
  have hp7 := okk.1
  have h2 := two12 hr12
  have key := lp_for (b := fun x : Int32 × Int32 => f_X12_fewestOf_L6 N (nI F) (nI p) (nI q) (if w then 1 else 0) x.1 x.2 τ) (fun k => (wI (few (pM K F (opn K X) p q w) k), nI k)) (2 ^ cR K) (wI (few (pM K F (opn K X) p q w) (2 ^ cR K))) (fun k hk => by
    show f_X12_fewestOf_L6 N (nI F) (nI p) (nI q) (if w then 1 else 0) (wI (few (pM K F (opn K X) p q w) k)) (nI k) τ = some (.inr (.inl (wI (if pM K F (opn K X) p q w k = true ∧ (few (pM K F (opn K X) p q w) k = 0 ∨ cntB k 12 < cntB (few (pM K F (opn K X) p q w) k - 1) 12) then k + 1 else few (pM K F (opn K X) p q w) k), nI (k + 1))))
    have hle := few_le (P := pM K F (opn K X) p q w) k
    generalize few (pM K F (opn K X) p q w) k = b at hle ⊢
    have b1 : f_X12_fewestOf_L6_B50 N (nI F) (nI p) (nI q) (if w then 1 else 0) (wI b) (nI k) 1 τ = some (.inr (.inl (wI (if (mts K (opn K X ^^^ k) p q != w) = true then k + 1 else b), nI (k + 1)))) := by
      unfold f_X12_fewestOf_L6_B50
      rw [if_neg (by decide), openOnes_ok okk hK h31 hX]
      simp only [cr_some]
      rw [nI_xor, reachBy_ok hN okk hK hp]
      simp only [cr_some]
      rw [has_nI (by omega)]
      simp only [cr_some]
      rw [nJ_addL]
      unfold mts
      cases (rch K (opn K X ^^^ k) p).testBit q <;> cases w
      · rfl
      · exact (show (some (.inr (.inl (nI k, nI (k + 1)))) : Option (Int32 ⊕ ((Int32 × Int32) ⊕ Int32))) = some (.inr (.inl (wI (k + 1), nI (k + 1)))) by rw [wI_s])
      · exact (show (some (.inr (.inl (nI k, nI (k + 1)))) : Option (Int32 ⊕ ((Int32 × Int32) ⊕ Int32))) = some (.inr (.inl (wI (k + 1), nI (k + 1)))) by rw [wI_s])
      · rfl
    have b0 : f_X12_fewestOf_L6_B50 N (nI F) (nI p) (nI q) (if w then 1 else 0) (wI b) (nI k) 0 τ = some (.inr (.inl (wI b, nI (k + 1)))) := by
      unfold f_X12_fewestOf_L6_B50
      rw [if_pos rfl, nJ_addL]
    have ez : (nI (k &&& (k ^^^ F)) = 0) = (isSub k F = true) := by
      have : k &&& (k ^^^ F) ≤ k := Nat.and_le_left
      rw [nJ_0, nJ_eq (by omega) (by decide)]
      unfold isSub
      rw [decide_eq_true_eq]
    unfold f_X12_fewestOf_L6
    rw [hK.2.1, shl_1 (by omega), if_neg (by rw [nJ_le (by omega) (by omega)]; omega), and_not]
    by_cases c1 : isSub k F = true
    · rw [if_pos (by rw [ez]; exact c1)]
      by_cases c2 : b = 0
      · rw [if_pos (by rw [c2, wI_0]), b1]
        unfold pM
        rw [c1]
        simp only [c2, true_or, and_true, Bool.true_and]
      · obtain ⟨d, rfl⟩ : ∃ d, b = d + 1 := ⟨b - 1, by omega⟩
        have c9 := cntB_le (R := k) 12
        have c8 := cntB_le (R := d) 12
        rw [if_neg (by rw [wI_s, nJ_ne_neg (by omega)]; exact id), bc_ok, bc_ok, b1, b0, wI_s, bc_cnt (by omega), bc_cnt (by omega)]
        simp only [cr_some]
        by_cases c3 : cntB k 12 < cntB d 12
        · rw [if_neg (by rw [nJ_le (by omega) (by omega)]; omega)]
          unfold pM
          rw [c1]
          simp only [Nat.add_sub_cancel, c3, or_true, and_true, Bool.true_and]
        · rw [if_pos (by rw [nJ_le (by omega) (by omega)]; omega), if_neg (by rw [Nat.add_sub_cancel]; omega), wI_s]
    · rw [if_neg (by rw [ez]; exact c1), b0, if_neg]
      unfold pM
      rintro ⟨h, -⟩
      rw [Bool.and_eq_true] at h
      exact c1 h.1) (by
    show f_X12_fewestOf_L6 N (nI F) (nI p) (nI q) (if w then 1 else 0) _ (nI (2 ^ cR K)) τ = _
    unfold f_X12_fewestOf_L6
    rw [hK.2.1, shl_1 (by omega), if_pos (by rw [nJ_le (by omega) (by omega)]; omega)]) N 0 (by omega) (by omega)
  unfold f_X12_fewestOf
  have key : sg_lp (fun x : Int32 × Int32 => f_X12_fewestOf_L6 N (nI F) (nI p) (nI q) (if w then 1 else 0) x.1 x.2 τ) N ((-1, 0)) = _ := key
  rw [key, lb_inr]
/-- the class's search for what parts -/
def fwP (K : Cty) (O p q : Nat) : Nat → Nat
  | 0 => O
  | k + 1 => if isSub k O = true ∧ cntB k 12 < cntB (fwP K O p q k) 12 ∧ mts K (O &&& (O ^^^ k)) p q = false then k else fwP K O p q k
theorem fwP_lt {K : Cty} {O p q n : Nat} (hO : O < n) : ∀ k, k ≤ n → fwP K O p q k < n := by
  intro k
  induction k with
  | zero => intro _; exact hO
  | succ k ih =>
    intro hk
    show (if isSub k O = true ∧ cntB k 12 < cntB (fwP K O p q k) 12 ∧ mts K (O &&& (O ^^^ k)) p q = false then k else fwP K O p q k) < n
    split
    · omega
    · exact ih (by omega)
theorem fewestToPart_ok {N O p q : Nat} {K : Cty} {σ : sgS} (hN : 10000 ≤ N) (okk : okK K) (hK : CK K σ) (hO : O < 2 ^ cR K) (hp : p < cP K) (hq : q < cP K) : f_X5_fewestToPart N (nI p) (nI q) (nI O) σ = some (nI (fwP K O p q (2 ^ cR K))) := by
  have hr12 := okk.2.1
  have hp7 := okk.1
  have h2 := two12 hr12
  have ha : f_X0_allRoads N 3 σ = some (nI (2 ^ cR K - 1)) := by
    unfold f_X0_allRoads
    rw [hK.2.1, all_ok hr12]
  have key := lp_for (b := fun x : Int32 × Int32 => f_X5_fewestToPart_L6 N (nI p) (nI q) (nI O) x.1 x.2 σ) (fun k => (nI (fwP K O p q k), nI k)) (2 ^ cR K) (nI (fwP K O p q (2 ^ cR K))) (fun k hk => by
    show f_X5_fewestToPart_L6 N (nI p) (nI q) (nI O) (nI (fwP K O p q k)) (nI k) σ = some (.inr (.inl (nI (if isSub k O = true ∧ cntB k 12 < cntB (fwP K O p q k) 12 ∧ mts K (O &&& (O ^^^ k)) p q = false then k else fwP K O p q k), nI (k + 1))))
    have hlt := fwP_lt (K := K) (p := p) (q := q) hO k (by omega)
    generalize fwP K O p q k = b at hlt ⊢
    have b1 : f_X5_fewestToPart_L6_B45 N (nI p) (nI q) (nI O) (nI b) (nI k) 1 σ = some (.inr (.inl (nI (if mts K (O &&& (O ^^^ k)) p q = false then k else b), nI (k + 1)))) := by
      unfold f_X5_fewestToPart_L6_B45
      rw [if_neg (by decide), and_not, meets_ok hN okk hK hp hq]
      simp only [cr_some]
      rw [nJ_addL]
      cases mts K (O &&& (O ^^^ k)) p q <;> rfl
    have b0 : f_X5_fewestToPart_L6_B45 N (nI p) (nI q) (nI O) (nI b) (nI k) 0 σ = some (.inr (.inl (nI b, nI (k + 1)))) := by
      unfold f_X5_fewestToPart_L6_B45
      rw [if_pos rfl, nJ_addL]
    have ez : (nI (k &&& (k ^^^ O)) = 0) = (isSub k O = true) := by
      have : k &&& (k ^^^ O) ≤ k := Nat.and_le_left
      rw [nJ_0, nJ_eq (by omega) (by decide)]
      unfold isSub
      rw [decide_eq_true_eq]
    have c9 := cntB_le (R := k) 12
    have c8 := cntB_le (R := b) 12
    unfold f_X5_fewestToPart_L6
    rw [ha]
    simp only [cr_some]
    rw [if_neg (by rw [nJ_lt (by omega) (by omega)]; omega), and_not, bc_ok, bc_ok, b1, b0, bc_cnt (by omega), bc_cnt (by omega)]
    simp only [cr_some]
    by_cases c1 : isSub k O = true
    · rw [if_pos (by rw [ez]; exact c1)]
      by_cases c3 : cntB k 12 < cntB b 12
      · rw [if_neg (by rw [nJ_le (by omega) (by omega)]; omega)]
        simp only [c1, c3, true_and]
      · rw [if_pos (by rw [nJ_le (by omega) (by omega)]; omega), if_neg (fun h => c3 h.2.1)]
    · rw [if_neg (by rw [ez]; exact c1), if_neg (fun h => c1 h.1)]) (by
    show f_X5_fewestToPart_L6 N (nI p) (nI q) (nI O) _ (nI (2 ^ cR K)) σ = _
    have := Nat.one_le_two_pow (n := cR K)
    unfold f_X5_fewestToPart_L6
    rw [ha]
    simp only [cr_some]
    rw [if_pos (by rw [nJ_lt (by omega) (by omega)]; omega)]) N 0 (by omega) (by omega)
  unfold f_X5_fewestToPart
  have key : sg_lp (fun x : Int32 × Int32 => f_X5_fewestToPart_L6 N (nI p) (nI q) (nI O) x.1 x.2 σ) N ((nI O, 0)) = _ := key
  rw [key, lb_inr]
/-- both find the same -/
theorem fwP_few {K : Cty} {O p q : Nat} (hO : O < 4096) : ∀ k, k ≤ 4096 → (few (pM K O O p q true) k = 0 ∧ fwP K O p q k = O) ∨ few (pM K O O p q true) k = fwP K O p q k + 1 := by
  intro k
  induction k with
  | zero => intro _; exact Or.inl ⟨rfl, rfl⟩
  | succ k ih =>
    intro hk
    show ((if pM K O O p q true k = true ∧ (few (pM K O O p q true) k = 0 ∨ cntB k 12 < cntB (few (pM K O O p q true) k - 1) 12) then k + 1 else few (pM K O O p q true) k) = 0 ∧ (if isSub k O = true ∧ cntB k 12 < cntB (fwP K O p q k) 12 ∧ mts K (O &&& (O ^^^ k)) p q = false then k else fwP K O p q k) = O) ∨ (if pM K O O p q true k = true ∧ (few (pM K O O p q true) k = 0 ∨ cntB k 12 < cntB (few (pM K O O p q true) k - 1) 12) then k + 1 else few (pM K O O p q true) k) = (if isSub k O = true ∧ cntB k 12 < cntB (fwP K O p q k) 12 ∧ mts K (O &&& (O ^^^ k)) p q = false then k else fwP K O p q k) + 1
    have eP : isSub k O = true → (pM K O O p q true k = true ↔ mts K (O &&& (O ^^^ k)) p q = false) := by
      intro hs
      unfold pM
      rw [hs, sub_xor (isSub_iff.mp hs)]
      cases mts K (O ^^^ k) p q <;> simp
    have eN : isSub k O ≠ true → pM K O O p q true k ≠ true := by
      intro hs h
      unfold pM at h
      rw [Bool.and_eq_true] at h
      exact hs h.1
    by_cases c1 : isSub k O = true
    · by_cases c2 : mts K (O &&& (O ^^^ k)) p q = false
      · have c3 := (eP c1).mpr c2
        rcases ih (by omega) with ⟨h1, h2⟩ | h1
        · rw [if_pos ⟨c3, Or.inl h1⟩, h2]
          right
          by_cases c4 : cntB k 12 < cntB O 12
          · rw [if_pos ⟨c1, c4, c2⟩]
          · rw [if_neg (fun h => c4 h.2.1), cntB_ne (isSub_iff.mp c1) hO (by omega)]
        · right
          rw [h1, Nat.add_sub_cancel]
          by_cases c4 : cntB k 12 < cntB (fwP K O p q k) 12
          · rw [if_pos ⟨c3, Or.inr c4⟩, if_pos ⟨c1, c4, c2⟩]
          · rw [if_neg (fun h => h.2.elim (by omega) c4), if_neg (fun h => c4 h.2.1)]
      · have c3 : ¬ pM K O O p q true k = true := fun h => c2 ((eP c1).mp h)
        rw [if_neg (fun h => c3 h.1), if_neg (fun h => c2 h.2.2)]
        exact ih (by omega)
    · rw [if_neg (fun h => eN c1 h.1), if_neg (fun h => c1 h.1)]
      exact ih (by omega)
theorem few_some {P : Nat → Bool} {j : Nat} (h : P j = true) : ∀ k, j < k → few P k ≠ 0 := by
  intro k
  induction k with
  | zero => intro h; omega
  | succ k ih =>
    intro hj
    show (if P k = true ∧ (few P k = 0 ∨ cntB k 12 < cntB (few P k - 1) 12) then k + 1 else few P k) ≠ 0
    by_cases c : j = k
    · subst c
      by_cases c2 : few P j = 0
      · rw [if_pos ⟨h, Or.inl c2⟩]; omega
      · split <;> omega
    · have := ih (by omega)
      split <;> omega
theorem rPs_0 {K : Cty} {R : Nat} : ∀ n, rPs K 0 R n = R := by
  intro n
  induction n with
  | zero => rfl
  | succ n ih =>
    show rSt K 0 (rPs K 0 R n) n = R
    rw [ih]
    unfold rSt
    rw [if_neg]
    rintro ⟨h, -⟩
    rw [Nat.zero_testBit] at h
    cases h
theorem rIt_0 {K : Cty} {p : Nat} : ∀ n, rIt K 0 p n = 2 ^ p := by
  intro n
  induction n with
  | zero => rfl
  | succ n ih =>
    show rPs K 0 (rIt K 0 p n) (cR K) = _
    rw [rPs_0, ih]
theorem mts_0 {K : Cty} {p q : Nat} (h : p ≠ q) : mts K 0 p q = false := by
  unfold mts rch
  rw [rIt_0, Nat.testBit_two_pow, decide_eq_false h]
theorem lw_O24_ok : lw_O24 Rel := by
  intro a1 a2
  refine ro_eq (fun A σ τ ok C M => ⟨10000, 10000, ?_⟩)
  have hp : cP (aK A) ≤ 7 := ok.2.1.1
  have hr := ok.2.1.2.1
  have eC := C.2.1
  have eM := M.2.1
  unfold f_X11_parted f_X12_parted
  rcases nJ_rng a1 (cP (aK A)) (by omega) with ⟨p, hp1, rfl⟩ | h
  · rcases nJ_rng a2 (cP (aK A)) (by omega) with ⟨q, hq1, rfl⟩ | h
    · have h0 : cP (aK A) ≠ 0 := by omega
      have e1 := C.2.2.2.2.1 h0
      have e2 := M.2.2.2.2.1 h0
      have hX := (ok.2.2.2.2.2.1 h0).2.2.2.2.1
      obtain ⟨o1, o2⟩ := openC_ok (N := 10000) ok.2.1 eC e1.2.2.2.2.2.1 hX
      have hO := opn_lt (K := aK A) hX
      have h2 := two12 hr
      rw [hasPlaces_y eC.1 hp1 hq1 (by omega)]
      simp only [cr_some]
      rw [if_neg (by decide)]
      by_cases c : p = q
      · subst c
        rw [areTwo_s eM.1 hp1 (by omega), if_pos rfl]
        exact ⟨_, rfl, rfl⟩
      · rw [areTwo_y eM.1 hp1 hq1 (by omega) c, if_neg (by rw [nJ_eq (by omega) (by omega)]; exact c), o1]
        simp only [cr_some]
        rw [o2, if_neg (by decide), openOnes_ok ok.2.1 eM e2.2.2.2.2.2.1 hX, fewestToPart_ok (by decide) ok.2.1 eC hO hp1 hq1]
        simp only [cr_some]
        rw [show f_X12_fewestOf 10000 (nI (opn (aK A) (sX (aS A)))) (nI p) (nI q) 1 τ = _ from fewestOf_ok (w := true) (by decide) ok.2.1 eM e2.2.2.2.2.2.1 hX hp1 hq1]
        simp only [cr_some]
        refine ⟨_, rfl, ?_⟩
        have hs : pM (aK A) (opn (aK A) (sX (aS A))) (opn (aK A) (sX (aS A))) p q true (opn (aK A) (sX (aS A))) = true := by
          unfold pM
          rw [isSub_iff.mpr sub_rf, Nat.xor_self, mts_0 c]; rfl
        have hne := few_some hs (2 ^ cR (aK A)) hO
        rcases fwP_few (K := aK A) (O := opn (aK A) (sX (aS A))) (p := p) (q := q) (by omega) (2 ^ cR (aK A)) h2 with ⟨h1, -⟩ | h1
        · exact absurd h1 hne
        · rw [h1, wI_s]
    · rw [hasPlaces_n2 eC.1 hp1 (by omega) h, areTwo_n2 eM.1 hp1 (by omega) h]
      exact ⟨_, rfl, rfl⟩
  · rw [hasPlaces_n1 eC.1 h, areTwo_n1 eM.1 (by omega) h]
    exact ⟨_, rfl, rfl⟩
/-- the class's search for what joins -/
theorem fewestToJoin_ok {N X p q : Nat} {K : Cty} {σ : sgS} (hN : 10000 ≤ N) (okk : okK K) (hK : CK K σ) (hX : X < 2 ^ cR K) (hp : p < cP K) (hq : q < cP K) : f_X5_fewestToJoin N (nI p) (nI q) (nI (opn K X)) σ = some (wI (few (pM K X (opn K X) p q false) (2 ^ cR K))) := by
  have hr12 := okk.2.1
  have hp7 := okk.1
  have h2 := two12 hr12
  have ha : f_X0_allRoads N 3 σ = some (nI (2 ^ cR K - 1)) := by
    unfold f_X0_allRoads
    rw [hK.2.1, all_ok hr12]
  have key := lp_for (b := fun x : Int32 × Int32 => f_X5_fewestToJoin_L6 N (nI p) (nI q) (nI (opn K X)) x.1 x.2 σ) (fun k => (wI (few (pM K X (opn K X) p q false) k), nI k)) (2 ^ cR K) (wI (few (pM K X (opn K X) p q false) (2 ^ cR K))) (fun k hk => by
    show f_X5_fewestToJoin_L6 N (nI p) (nI q) (nI (opn K X)) (wI (few (pM K X (opn K X) p q false) k)) (nI k) σ = some (.inr (.inl (wI (if pM K X (opn K X) p q false k = true ∧ (few (pM K X (opn K X) p q false) k = 0 ∨ cntB k 12 < cntB (few (pM K X (opn K X) p q false) k - 1) 12) then k + 1 else few (pM K X (opn K X) p q false) k), nI (k + 1))))
    have hle := few_le (P := pM K X (opn K X) p q false) k
    generalize few (pM K X (opn K X) p q false) k = b at hle ⊢
    have kb : ∀ j, k.testBit j = true → j < cR K := by
      intro j hj
      apply Classical.byContradiction
      intro hc
      have := Nat.testBit_lt_two_pow (Nat.lt_of_lt_of_le hk (Nat.pow_le_pow_right (n := 2) (by decide) (show cR K ≤ j by omega)))
      rw [this] at hj
      cases hj
    have ez : (nI k &&& nI (opn K X) = 0) = (isSub k X = true) := by
      have hle2 : k &&& opn K X ≤ k := Nat.and_le_left
      rw [nI_and, nJ_0, nJ_eq (by omega) (by decide)]
      apply propext
      rw [isSub_iff]
      constructor
      · intro h j hj
        have := congrArg (fun x => x.testBit j) h
        simp only [Nat.testBit_and, opn_bit hX, Nat.zero_testBit, hj, Bool.true_and, decide_eq_true (kb j hj)] at this
        cases hb : X.testBit j with
        | true => rfl
        | false => rw [hb] at this; cases this
      · intro h
        apply Nat.eq_of_testBit_eq
        intro j
        rw [Nat.zero_testBit, Nat.testBit_and, opn_bit hX]
        cases hj : k.testBit j with
        | true => rw [h j hj]; cases decide (j < cR K) <;> rfl
        | false => rfl
    have eo : isSub k X = true → opn K X ||| k = opn K X ^^^ k := by
      intro hs
      apply Nat.eq_of_testBit_eq
      intro j
      rw [Nat.testBit_or, Nat.testBit_xor, opn_bit hX]
      cases hj : k.testBit j with
      | true => rw [isSub_iff.mp hs j hj]; cases decide (j < cR K) <;> rfl
      | false => cases decide (j < cR K) <;> cases X.testBit j <;> rfl
    have b1 : f_X5_fewestToJoin_L6_B42 N (nI p) (nI q) (nI (opn K X)) (wI b) (nI k) 1 σ = some (.inr (.inl (wI (if pM K X (opn K X) p q false k = true then k + 1 else b), nI (k + 1)))) := by
      unfold f_X5_fewestToJoin_L6_B42
      rw [if_neg (by decide), nJ_addL]
      by_cases c1 : isSub k X = true
      · rw [if_pos (by rw [ez]; exact c1), nI_or, eo c1, meets_ok hN okk hK hp hq]
        simp only [cr_some]
        unfold pM
        rw [c1]
        cases mts K (opn K X ^^^ k) p q
        · rfl
        · rw [if_neg (by decide)]
          exact (show (some (.inr (.inl (nI k, nI (k + 1)))) : Option (Int32 ⊕ ((Int32 × Int32) ⊕ Int32))) = some (.inr (.inl (wI (k + 1), nI (k + 1)))) by rw [wI_s])
      · rw [if_neg (by rw [ez]; exact c1), if_neg]
        intro h
        unfold pM at h
        rw [Bool.and_eq_true] at h
        exact c1 h.1
    have b0 : f_X5_fewestToJoin_L6_B42 N (nI p) (nI q) (nI (opn K X)) (wI b) (nI k) 0 σ = some (.inr (.inl (wI b, nI (k + 1)))) := by
      unfold f_X5_fewestToJoin_L6_B42
      rw [if_pos rfl, nJ_addL]
    unfold f_X5_fewestToJoin_L6
    rw [ha]
    simp only [cr_some]
    rw [if_neg (by rw [nJ_lt (by omega) (by omega)]; omega)]
    by_cases c2 : b = 0
    · rw [if_pos (by rw [c2, wI_0]), b1]
      simp only [c2, true_or, and_true]
    · obtain ⟨d, rfl⟩ : ∃ d, b = d + 1 := ⟨b - 1, by omega⟩
      have c9 := cntB_le (R := k) 12
      have c8 := cntB_le (R := d) 12
      rw [if_neg (by rw [wI_s, nJ_ne_neg (by omega)]; exact id), bc_ok, bc_ok, b1, b0, wI_s, bc_cnt (by omega), bc_cnt (by omega)]
      simp only [cr_some]
      by_cases c3 : cntB k 12 < cntB d 12
      · rw [if_neg (by rw [nJ_le (by omega) (by omega)]; omega)]
        simp only [Nat.add_sub_cancel, c3, or_true, and_true]
      · rw [if_pos (by rw [nJ_le (by omega) (by omega)]; omega), if_neg (by rw [Nat.add_sub_cancel]; omega), wI_s]) (by
    show f_X5_fewestToJoin_L6 N (nI p) (nI q) (nI (opn K X)) _ (nI (2 ^ cR K)) σ = _
    have := Nat.one_le_two_pow (n := cR K)
    unfold f_X5_fewestToJoin_L6
    rw [ha]
    simp only [cr_some]
    rw [if_pos (by rw [nJ_lt (by omega) (by omega)]; omega)]) N 0 (by omega) (by omega)
  unfold f_X5_fewestToJoin
  have key : sg_lp (fun x : Int32 × Int32 => f_X5_fewestToJoin_L6 N (nI p) (nI q) (nI (opn K X)) x.1 x.2 σ) N ((-1, 0)) = _ := key
  rw [key, lb_inr]
theorem lw_O25_ok : lw_O25 Rel := by
  intro a1 a2
  refine ro_eq (fun A σ τ ok C M => ⟨10000, 10000, ?_⟩)
  have hp : cP (aK A) ≤ 7 := ok.2.1.1
  have hr := ok.2.1.2.1
  have eC := C.2.1
  have eM := M.2.1
  unfold f_X11_joined f_X12_joined
  rcases nJ_rng a1 (cP (aK A)) (by omega) with ⟨p, hp1, rfl⟩ | h
  · rcases nJ_rng a2 (cP (aK A)) (by omega) with ⟨q, hq1, rfl⟩ | h
    · have h0 : cP (aK A) ≠ 0 := by omega
      have e1 := C.2.2.2.2.1 h0
      have e2 := M.2.2.2.2.1 h0
      have hX := (ok.2.2.2.2.2.1 h0).2.2.2.2.1
      obtain ⟨o1, o2⟩ := openC_ok (N := 10000) ok.2.1 eC e1.2.2.2.2.2.1 hX
      rw [hasPlaces_y eC.1 hp1 hq1 (by omega)]
      simp only [cr_some]
      rw [if_neg (by decide)]
      by_cases c : p = q
      · subst c
        rw [areTwo_s eM.1 hp1 (by omega), if_pos rfl]
        exact ⟨_, rfl, rfl⟩
      · rw [areTwo_y eM.1 hp1 hq1 (by omega) c, if_neg (by rw [nJ_eq (by omega) (by omega)]; exact c), o1]
        simp only [cr_some]
        rw [o2, if_neg (by decide), ld_okL (by decide) (by decide), e2.2.2.2.2.2.1, fewestToJoin_ok (by decide) ok.2.1 eC hX hp1 hq1]
        simp only [cr_some]
        rw [show f_X12_fewestOf 10000 (nI (sX (aS A))) (nI p) (nI q) 0 τ = _ from fewestOf_ok (w := false) (by decide) ok.2.1 eM e2.2.2.2.2.2.1 hX hp1 hq1]
        simp only [cr_some]
        exact ⟨_, rfl, rfl⟩
    · rw [hasPlaces_n2 eC.1 hp1 (by omega) h, areTwo_n2 eM.1 hp1 (by omega) h]
      exact ⟨_, rfl, rfl⟩
  · rw [hasPlaces_n1 eC.1 h, areTwo_n1 eM.1 (by omega) h]
    exact ⟨_, rfl, rfl⟩
