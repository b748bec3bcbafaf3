/-! ODDS -/
def odd (K : Cty) (X p q ch : Nat) : Nat → Nat → Nat → Nat → Nat
  | 0, _, o, part => if part = 0 then 0 else if mts K o p q = true then part else 0
  | n + 1, r, o, part => if part = 0 then 0 else if X.testBit r = true then odd K X p q ch n (r + 1) o part else odd K X p q ch n (r + 1) o (part * ch / 100) + odd K X p q ch n (r + 1) (o ||| 2 ^ r) (part - part * ch / 100)
theorem shut_le {part ch : Nat} (h : ch ≤ 100) : part * ch / 100 ≤ part := by
  have : part * ch ≤ part * 100 := Nat.mul_le_mul_left _ h
  omega
theorem sub_or {a b : Nat} : sub a (a ||| b) := fun k h => by rw [Nat.testBit_or, h]; rfl
theorem mts_mono {K : Cty} {o o' p q : Nat} (h : sub o o') (hm : mts K o p q = true) : mts K o' p q = true := rch_mono h _ hm
theorem odd_all {K : Cty} {X p q ch : Nat} (hc : ch ≤ 100) : ∀ n r o part, mts K o p q = true → odd K X p q ch n r o part = part := by
  intro n
  induction n with
  | zero =>
    intro r o part h
    show (if part = 0 then 0 else if mts K o p q = true then part else 0) = part
    by_cases c : part = 0
    · rw [if_pos c, c]
    · rw [if_neg c, if_pos h]
  | succ n ih =>
    intro r o part h
    show (if part = 0 then 0 else if X.testBit r = true then odd K X p q ch n (r + 1) o part else odd K X p q ch n (r + 1) o (part * ch / 100) + odd K X p q ch n (r + 1) (o ||| 2 ^ r) (part - part * ch / 100)) = part
    by_cases c : part = 0
    · rw [if_pos c, c]
    · rw [if_neg c]
      by_cases c2 : X.testBit r = true
      · rw [if_pos c2]; exact ih _ _ _ h
      · rw [if_neg c2, ih _ _ _ h, ih _ _ _ (mts_mono sub_or h)]
        have := shut_le (part := part) hc
        omega
/-- what is open of roads r .. -/
def mayB (K : Cty) (X r m : Nat) : Prop := ∀ k, m.testBit k = true ↔ (r ≤ k ∧ k < cR K ∧ X.testBit k = false)
theorem odd_none {K : Cty} {X p q ch : Nat} : ∀ n r o part u, r + n = cR K → (∀ k, r ≤ k → k < cR K → X.testBit k = false → u.testBit k = true) → sub o u → mts K u p q = false → odd K X p q ch n r o part = 0 := by
  intro n
  induction n with
  | zero =>
    intro r o part u _ _ h2 h3
    show (if part = 0 then 0 else if mts K o p q = true then part else 0) = 0
    by_cases c : part = 0
    · rw [if_pos c]
    · rw [if_neg c, if_neg]
      intro h
      rw [mts_mono h2 h] at h3
      cases h3
  | succ n ih =>
    intro r o part u hr h1 h2 h3
    show (if part = 0 then 0 else if X.testBit r = true then odd K X p q ch n (r + 1) o part else odd K X p q ch n (r + 1) o (part * ch / 100) + odd K X p q ch n (r + 1) (o ||| 2 ^ r) (part - part * ch / 100)) = 0
    have h1' : ∀ k, r + 1 ≤ k → k < cR K → X.testBit k = false → u.testBit k = true := fun k a b c => h1 k (by omega) b c
    by_cases c : part = 0
    · rw [if_pos c]
    · rw [if_neg c]
      by_cases c2 : X.testBit r = true
      · rw [if_pos c2]; exact ih _ _ _ u (by omega) h1' h2 h3
      · rw [if_neg c2, ih _ _ _ u (by omega) h1' h2 h3, ih _ _ _ u (by omega) h1' (fun k hk => by
          rw [Nat.testBit_or, Bool.or_eq_true, Nat.testBit_two_pow, decide_eq_true_eq] at hk
          rcases hk with hk | hk
          · exact h2 k hk
          · subst hk; exact h1 _ (Nat.le_refl _) (by omega) (by rw [← Bool.not_eq_true]; exact c2)) h3]
theorem shut_ok {part ch : Nat} (hp : part ≤ 1000000000) (hc : ch ≤ 100) : (((nI part).toInt64 * (nI ch).toInt64) / 100).toInt32 = nI (part * ch / 100) := by
  have hm : part * ch ≤ 1000000000 * 100 := Nat.mul_le_mul hp hc
  rw [toI64 (by omega), toI64 (by omega), ← Int64.ofNat_mul, show (100 : Int64) = Int64.ofNat 100 from rfl]
  generalize part * ch = m at hm ⊢
  have ed : Int64.ofNat m / Int64.ofNat 100 = Int64.ofNat (m / 100) := by
    rw [← Int64.toInt_inj, Int64.toInt_div, Int64.toInt_ofNat_of_lt (by omega), Int64.toInt_ofNat_of_lt (by omega), Int64.toInt_ofNat_of_lt (by omega)]
    rw [show Int.tdiv (m : Int) ((100 : Nat) : Int) = ((m / 100 : Nat) : Int) from (Int.ofNat_tdiv m 100).symm]
    have h1 : m / 100 ≤ 1000000000 := by omega
    generalize m / 100 = z at h1 ⊢
    exact Int.bmod_eq_of_le (by omega) (by omega)
  rw [ed, Int64.toInt32_ofNat']
  rfl
theorem nzl100 {α : Type} {K : Option α} : sg_nzl 100 K = K := if_neg (by decide)
theorem oddsFrom_ok {N X p q ch : Nat} {K : Cty} {τ : sgS} (hN : 10000 ≤ N) (okk : okK K) (hK : MK K τ) (h31 : τ.1 21 31 = nI X) (hp : p < cP K) (hq : q < cP K) (hc : ch ≤ 100) : ∀ n r o part d, r + n = cR K → part ≤ 1000000000 → n < d → f_X12_oddsFrom d N (nI r) (nI o) (nI p) (nI q) (nI ch) (nI part) τ = some (nI (odd K X p q ch n r o part)) := by
  have hr12 := okk.2.1
  have hp7 := okk.1
  intro n
  induction n with
  | zero =>
    intro r o part d hr hpt hd
    obtain ⟨d, rfl⟩ : ∃ m, d = m + 1 := ⟨d - 1, by omega⟩
    show f_X12_oddsFrom_b N (f_X12_oddsFrom d N) (nI r) (nI o) (nI p) (nI q) (nI ch) (nI part) τ = some (nI (if part = 0 then 0 else if mts K o p q = true then part else 0))
    unfold f_X12_oddsFrom_b
    by_cases c : part = 0
    · rw [if_pos (by rw [c]; rfl), if_pos c]; rfl
    · rw [if_neg (by rw [eq0_F (by omega) (by omega)]; exact id), if_neg c, hK.2.1, if_pos (by rw [show r = cR K by omega]), reachBy_ok hN okk hK hp]
      simp only [cr_some]
      rw [has_nI (by omega)]
      simp only [cr_some]
      unfold mts
      cases (rch K o p).testBit q <;> rfl
  | succ n ih =>
    intro r o part d hr hpt hd
    obtain ⟨d, rfl⟩ : ∃ m, d = m + 1 := ⟨d - 1, by omega⟩
    show f_X12_oddsFrom_b N (f_X12_oddsFrom d N) (nI r) (nI o) (nI p) (nI q) (nI ch) (nI part) τ = some (nI (if part = 0 then 0 else if X.testBit r = true then odd K X p q ch n (r + 1) o part else odd K X p q ch n (r + 1) o (part * ch / 100) + odd K X p q ch n (r + 1) (o ||| 2 ^ r) (part - part * ch / 100)))
    have hcl : f_X12_isClosed N (nI r) τ = some (if X.testBit r then 1 else 0) := by
      unfold f_X12_isClosed
      rw [ld_okL (by decide) (by decide), h31, has_nI (by omega)]
      cases X.testBit r <;> rfl
    have hsh := shut_le (part := part) hc
    unfold f_X12_oddsFrom_b
    by_cases c : part = 0
    · rw [if_pos (by rw [c]; rfl), if_pos c]; rfl
    · rw [if_neg (by rw [eq0_F (by omega) (by omega)]; exact id), if_neg c, hK.2.1, if_neg (by rw [nJ_eq (by omega) (by omega)]; omega), hcl, shut_ok hpt hc, shl_1 (by omega), nI_or, nJ_sub hsh, nJ_addL, ih _ _ _ d (by omega) hpt (by omega), ih _ _ _ d (by omega) (by omega) (by omega), ih _ _ _ d (by omega) (by omega) (by omega)]
      simp only [cr_some, nzl100]
      rw [nJ_add]
      cases X.testBit r
      · rfl
      · rfl
theorem joining_ok {N X p q ch : Nat} {K : Cty} {σ : sgS} (hN : 10000 ≤ N) (okk : okK K) (hK : CK K σ) (hp : p < cP K) (hq : q < cP K) (hc : ch ≤ 100) : ∀ n r o part m d, r + n = cR K → part ≤ 1000000000 → n < d → mayB K X r m → f_X5_joiningParts d N (nI p) (nI q) (nI ch) (nI r) (nI m) (nI o) (nI part) σ = some (nI (odd K X p q ch n r o part)) := by
  have hr12 := okk.2.1
  have hp7 := okk.1
  intro n
  induction n with
  | zero =>
    intro r o part m d hr hpt hd hm
    obtain ⟨d, rfl⟩ : ∃ m, d = m + 1 := ⟨d - 1, by omega⟩
    show f_X5_joiningParts_b N (f_X5_joiningParts d N) (nI p) (nI q) (nI ch) (nI r) (nI m) (nI o) (nI part) σ = some (nI (if part = 0 then 0 else if mts K o p q = true then part else 0))
    unfold f_X5_joiningParts_b
    by_cases c : part = 0
    · rw [if_pos (by rw [c]; rfl), if_pos c, c]
    · rw [if_neg (by rw [eq0_F (by omega) (by omega)]; exact id), if_neg c, meets_ok hN okk hK hp hq]
      simp only [cr_some]
      by_cases c2 : mts K o p q = true
      · rw [if_pos c2, if_neg (by decide), if_pos c2]
      · rw [if_neg c2, if_pos rfl, if_neg c2, hK.2.1, if_pos (by rw [nJ_le (by omega) (by omega)]; omega)]; rfl
  | succ n ih =>
    intro r o part m d hr hpt hd hm
    obtain ⟨d, rfl⟩ : ∃ m, d = m + 1 := ⟨d - 1, by omega⟩
    have hsh := shut_le (part := part) hc
    show f_X5_joiningParts_b N (f_X5_joiningParts d N) (nI p) (nI q) (nI ch) (nI r) (nI m) (nI o) (nI part) σ = _
    by_cases c : part = 0
    · unfold f_X5_joiningParts_b
      rw [if_pos (by rw [c]; rfl)]
      show some (nI part) = some (nI (if part = 0 then 0 else _))
      rw [if_pos c, c]
    · by_cases c2 : mts K o p q = true
      · unfold f_X5_joiningParts_b
        rw [if_neg (by rw [eq0_F (by omega) (by omega)]; exact id), meets_ok hN okk hK hp hq, odd_all hc _ _ _ _ c2]
        simp only [cr_some]
        rw [if_neg (by rw [if_pos c2]; decide)]
      · by_cases c3 : mts K (o ||| m) p q = true
        · have eo : odd K X p q ch (n + 1) r o part = if X.testBit r = true then odd K X p q ch n (r + 1) o part else odd K X p q ch n (r + 1) o (part * ch / 100) + odd K X p q ch n (r + 1) (o ||| 2 ^ r) (part - part * ch / 100) := if_neg c
          have eb : nI m &&& nI (2 ^ r) = if X.testBit r then 0 else nI (2 ^ r) := by
            rw [nI_and]
            by_cases cx : X.testBit r = true
            · rw [if_pos cx, nJ_0]
              congr 1
              apply Nat.eq_of_testBit_eq
              intro k
              rw [Nat.zero_testBit, Nat.testBit_and, Nat.testBit_two_pow]
              by_cases ck : r = k
              · subst ck
                cases hb : m.testBit r with
                | false => rfl
                | true => have := ((hm r).mp hb).2.2; rw [cx] at this; cases this
              · rw [decide_eq_false ck, Bool.and_false]
            · rw [if_neg cx]
              congr 1
              apply Nat.eq_of_testBit_eq
              intro k
              rw [Nat.testBit_and, Nat.testBit_two_pow]
              by_cases ck : r = k
              · subst ck
                rw [(hm r).mpr ⟨Nat.le_refl _, by omega, by rw [← Bool.not_eq_true]; exact cx⟩]; rfl
              · rw [decide_eq_false ck, Bool.and_false]
          have h2r : 2 ^ r ≤ 4096 := two12 (by omega)
          have h2p : 1 ≤ 2 ^ r := Nat.one_le_two_pow
          rw [eo]
          unfold f_X5_joiningParts_b
          rw [if_neg (by rw [eq0_F (by omega) (by omega)]; exact id), meets_ok hN okk hK hp hq, nI_or, meets_ok hN okk hK hp hq, shl_1 (by omega), hK.2.1, eb, shut_ok hpt hc, nJ_sub hsh, nJ_addL]
          simp only [cr_some, nzl100]
          rw [if_pos (by rw [if_neg c2]), if_neg (by rw [nJ_le (by omega) (by omega)]; omega), if_neg (by rw [if_pos c3]; decide)]
          by_cases cx : X.testBit r = true
          · rw [if_pos cx, if_pos cx, if_pos rfl, ih _ _ _ m d (by omega) hpt (by omega) (fun k => by
              rw [hm k]
              constructor
              · rintro ⟨a, b, e⟩
                refine ⟨?_, b, e⟩
                by_cases ck : r = k
                · subst ck; rw [cx] at e; cases e
                · omega
              · rintro ⟨a, b, e⟩; exact ⟨by omega, b, e⟩)]
            simp only [cr_some]
          · rw [if_neg cx, if_neg cx, if_neg (by rw [eq0_F (by omega) (by omega)]; exact id), and_not, nI_or]
            have hm' : mayB K X (r + 1) (m &&& (m ^^^ 2 ^ r)) := by
              intro k
              rw [Nat.testBit_and, Nat.testBit_xor, Nat.testBit_two_pow]
              by_cases ck : r = k
              · subst ck
                rw [decide_eq_true rfl]
                constructor
                · intro h; cases hb : m.testBit r <;> rw [hb] at h <;> cases h
                · rintro ⟨a, -, -⟩; omega
              · rw [decide_eq_false ck]
                constructor
                · intro h
                  have hb : m.testBit k = true := by
                    cases hb : m.testBit k with
                    | true => rfl
                    | false => rw [hb] at h; cases h
                  obtain ⟨a, b, e⟩ := (hm k).mp hb
                  exact ⟨by omega, b, e⟩
                · rintro ⟨a, b, e⟩
                  rw [(hm k).mpr ⟨by omega, b, e⟩]; rfl
            rw [ih _ _ _ _ d (by omega) (by omega) (by omega) hm', ih _ _ _ _ d (by omega) (by omega) (by omega) hm']
            simp only [cr_some]
            rw [nJ_add]
        · have c3 : mts K (o ||| m) p q = false := by rw [← Bool.not_eq_true]; exact c3
          rw [odd_none (n + 1) r o part (o ||| m) hr (fun k a b e => by rw [Nat.testBit_or, (hm k).mpr ⟨a, b, e⟩, Bool.or_true]) sub_or c3]
          unfold f_X5_joiningParts_b
          rw [if_neg (by rw [eq0_F (by omega) (by omega)]; exact id), meets_ok hN okk hK hp hq, nI_or, meets_ok hN okk hK hp hq, hK.2.1]
          simp only [cr_some]
          rw [if_pos (by rw [if_neg c2]), if_neg (by rw [nJ_le (by omega) (by omega)]; omega), if_pos (by rw [c3]; rfl)]
          rfl
theorem lw_O33_ok : lw_O33 Rel := by
  intro a1 a2 a3
  refine ro_eq (fun A σ τ ok C M => ⟨10000, 10000, ?_⟩)
  have hp : cP (aK A) ≤ 7 := ok.2.1.1
  have hr := ok.2.1.2.1
  have eC := C.2.1
  have eM := M.2.1
  unfold f_X11_odds f_X12_odds f_X5_partsThatJoin
  rcases nJ_rng a1 (cP (aK A)) (by omega) with ⟨p, hp1, rfl⟩ | h
  · rcases nJ_rng a2 (cP (aK A)) (by omega) with ⟨q, hq1, rfl⟩ | h
    · have h0 : cP (aK A) ≠ 0 := by omega
      have e1 := C.2.2.2.2.1 h0
      have e2 := M.2.2.2.2.1 h0
      have hX := (ok.2.2.2.2.2.1 h0).2.2.2.2.1
      obtain ⟨o1, o2⟩ := openC_ok (N := 10000) ok.2.1 eC e1.2.2.2.2.2.1 hX
      rw [hasPlaces_y eC.1 hp1 hq1 (by omega), isPlace_y eM.1 hp1 (by omega), isPlace_y eM.1 hq1 (by omega), inL (m := 100) (by decide), o1]
      rcases nJ_rng a3 (100 + 1) (by decide) with ⟨ch, hc, rfl⟩ | h
      · rw [in_y hc (by decide)]
        simp only [cr_some]
        rw [o2]
        have j1 := joining_ok (N := 10000) (X := sX (aS A)) (by decide) ok.2.1 eC hp1 hq1 (show ch ≤ 100 by omega) (cR (aK A)) 0 0 1000000000 (opn (aK A) (sX (aS A))) 40 (by omega) (by omega) (by omega) (fun k => by
          rw [opn_bit hX, Bool.and_eq_true, decide_eq_true_eq, Bool.not_eq_true']
          exact ⟨fun h => ⟨Nat.zero_le _, h.1, h.2⟩, fun h => h.2⟩)
        have j2 := oddsFrom_ok (N := 10000) (X := sX (aS A)) (by decide) ok.2.1 eM e2.2.2.2.2.2.1 hp1 hq1 (show ch ≤ 100 by omega) (cR (aK A)) 0 0 1000000000 40 (by omega) (by omega) (by omega)
        have j1 : f_X5_joiningParts 40 10000 (nI p) (nI q) (nI ch) 0 (nI (opn (aK A) (sX (aS A)))) 0 1000000000 σ = _ := j1
        have j2 : f_X12_oddsFrom 40 10000 0 0 (nI p) (nI q) (nI ch) 1000000000 τ = _ := j2
        rw [j1, j2]
        simp (disch := omega) only [cr_some, cl_some, lb_inr, lb_inl, pf_eq, pl_eq, nz_4, nz_7, nz_2, nz_40, nz_100, sg_nar0, sg_nar1, lt_T, lt_F, le_T, le_F, eq_T, eq_F, ltL_T, ltL_F, leL_T, leL_F, eqL_T, eqL_F, Llt_T, Llt_F, Lle_T, Lle_F, Leq_T, Leq_F, n10_F, n01_F, le0_F, lt0_T, le0_T, eq0_F, lt1_F, nJ_not_neg, nJ_ne_neg, nJ_neg_lt, nJ_neg_le, nJ_le_neg, ↓reduceIte, ld_ok, st_ok, rf_ok, ld_okL, st_okL, nJ_add, nJ_addL, nJ_Ladd, nJ_mul, nJ_mulL, nJ_Lmul]
        exact ⟨_, rfl, rfl⟩
      · rw [in_n h (by decide)]
        simp only [cr_some]
        by_cases h1 : a3 < 0
        · simp only [h1, cr_some, cl_some, lb_inr, lb_inl, pf_eq, pl_eq, nz_4, nz_7, nz_2, nz_40, nz_100, sg_nar0, sg_nar1, lt_T, lt_F, le_T, le_F, eq_T, eq_F, ltL_T, ltL_F, leL_T, leL_F, eqL_T, eqL_F, Llt_T, Llt_F, Lle_T, Lle_F, Leq_T, Leq_F, n10_F, n01_F, le0_F, lt0_T, le0_T, eq0_F, lt1_F, nJ_not_neg, nJ_ne_neg, nJ_neg_lt, nJ_neg_le, nJ_le_neg, ↓reduceIte, ld_ok, st_ok, rf_ok, ld_okL, st_okL, nJ_add, nJ_addL, nJ_Ladd, nJ_mul, nJ_mulL, nJ_Lmul]
          exact ⟨_, rfl, rfl⟩
        · have h2 : ¬ a3 ≤ 100 := by
            rcases nJ_cases a3 with hx | ⟨w, hw, rfl⟩
            · exact absurd hx h1
            · have := h.resolve_left h1
              rw [nJ_le (by decide) hw] at this
              rw [nJ_leL hw (by decide)]; omega
          simp only [h1, h2, cr_some, cl_some, lb_inr, lb_inl, pf_eq, pl_eq, nz_4, nz_7, nz_2, nz_40, nz_100, sg_nar0, sg_nar1, lt_T, lt_F, le_T, le_F, eq_T, eq_F, ltL_T, ltL_F, leL_T, leL_F, eqL_T, eqL_F, Llt_T, Llt_F, Lle_T, Lle_F, Leq_T, Leq_F, n10_F, n01_F, le0_F, lt0_T, le0_T, eq0_F, lt1_F, nJ_not_neg, nJ_ne_neg, nJ_neg_lt, nJ_neg_le, nJ_le_neg, ↓reduceIte, ld_ok, st_ok, rf_ok, ld_okL, st_okL, nJ_add, nJ_addL, nJ_Ladd, nJ_mul, nJ_mulL, nJ_Lmul]
          exact ⟨_, rfl, rfl⟩
    · rw [hasPlaces_n2 eC.1 hp1 (by omega) h, isPlace_y eM.1 hp1 (by omega), isPlace_n eM.1 h (by omega)]
      exact ⟨_, rfl, rfl⟩
  · rw [hasPlaces_n1 eC.1 h, isPlace_n eM.1 h (by omega)]
    exact ⟨_, rfl, rfl⟩
