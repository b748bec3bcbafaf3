/-! WHERE ONE CAN COME by some roads: places as bits -/
def rSt (K : Cty) (O R r : Nat) : Nat := if O.testBit r = true ∧ (R.testBit (cA K r) = true ∨ R.testBit (cB K r) = true) then R ||| (2 ^ cA K r ||| 2 ^ cB K r) else R
def rPs (K : Cty) (O R : Nat) : Nat → Nat
  | 0 => R
  | n + 1 => rSt K O (rPs K O R n) n
def rIt (K : Cty) (O p : Nat) : Nat → Nat
  | 0 => 2 ^ p
  | n + 1 => rPs K O (rIt K O p n) (cR K)
def rch (K : Cty) (O p : Nat) : Nat := rIt K O p 7
def sub (a b : Nat) : Prop := ∀ k, a.testBit k = true → b.testBit k = true
theorem sub_rf {a : Nat} : sub a a := fun _ h => h
theorem sub_tr {a b c : Nat} (h1 : sub a b) (h2 : sub b c) : sub a c := fun k h => h2 k (h1 k h)
theorem rSt_bit {K : Cty} {O R r k : Nat} : (rSt K O R r).testBit k = true ↔ R.testBit k = true ∨ (O.testBit r = true ∧ (R.testBit (cA K r) = true ∨ R.testBit (cB K r) = true) ∧ (k = cA K r ∨ k = cB K r)) := by
  unfold rSt
  by_cases c : O.testBit r = true ∧ (R.testBit (cA K r) = true ∨ R.testBit (cB K r) = true)
  · rw [if_pos c, Nat.testBit_or, Nat.testBit_or, Nat.testBit_two_pow, Nat.testBit_two_pow]
    simp only [Bool.or_eq_true, decide_eq_true_eq]
    constructor
    · rintro (h | h | h)
      · exact Or.inl h
      · exact Or.inr ⟨c.1, c.2, Or.inl h.symm⟩
      · exact Or.inr ⟨c.1, c.2, Or.inr h.symm⟩
    · rintro (h | ⟨-, -, h | h⟩)
      · exact Or.inl h
      · exact Or.inr (Or.inl h.symm)
      · exact Or.inr (Or.inr h.symm)
  · rw [if_neg c]
    exact ⟨Or.inl, fun h => h.elim id (fun h => absurd ⟨h.1, h.2.1⟩ c)⟩
theorem rSt_mono {K : Cty} {O O' R R' r : Nat} (hO : sub O O') (hR : sub R R') : sub (rSt K O R r) (rSt K O' R' r) := by
  intro k h
  rw [rSt_bit] at h ⊢
  rcases h with h | ⟨h1, h2, h3⟩
  · exact Or.inl (hR k h)
  · exact Or.inr ⟨hO _ h1, h2.elim (fun h => Or.inl (hR _ h)) (fun h => Or.inr (hR _ h)), h3⟩
theorem rSt_inc {K : Cty} {O R r : Nat} : sub R (rSt K O R r) := fun k h => rSt_bit.mpr (Or.inl h)
theorem rPs_mono {K : Cty} {O O' R R' : Nat} (hO : sub O O') (hR : sub R R') : ∀ n, sub (rPs K O R n) (rPs K O' R' n) := by
  intro n
  induction n with
  | zero => exact hR
  | succ n ih => exact rSt_mono hO ih
theorem rPs_inc {K : Cty} {O R : Nat} : ∀ n, sub R (rPs K O R n) := by
  intro n
  induction n with
  | zero => exact sub_rf
  | succ n ih => exact sub_tr ih rSt_inc
theorem rIt_mono {K : Cty} {O O' p : Nat} (hO : sub O O') : ∀ n, sub (rIt K O p n) (rIt K O' p n) := by
  intro n
  induction n with
  | zero => exact sub_rf
  | succ n ih => exact rPs_mono hO ih _
theorem rch_mono {K : Cty} {O O' p : Nat} (hO : sub O O') : sub (rch K O p) (rch K O' p) := rIt_mono hO 7
theorem or_lt7 {a b n : Nat} (ha : a < 2 ^ n) (hb : b < 2 ^ n) : a ||| b < 2 ^ n := Nat.or_lt_two_pow ha hb
theorem rSt_lt {K : Cty} {O R r : Nat} (okk : okK K) (hr : r < cR K) (h : R < 2 ^ cP K) : rSt K O R r < 2 ^ cP K := by
  have hc := okk.2.2.2.2.2.2.1 r hr
  unfold rSt
  by_cases c : O.testBit r = true ∧ (R.testBit (cA K r) = true ∨ R.testBit (cB K r) = true)
  · rw [if_pos c]
    exact or_lt7 h (or_lt7 (Nat.pow_lt_pow_right (by decide) hc.1) (Nat.pow_lt_pow_right (by decide) hc.2.1))
  · rw [if_neg c]; exact h
theorem rPs_lt {K : Cty} {O R : Nat} (okk : okK K) (h : R < 2 ^ cP K) : ∀ n, n ≤ cR K → rPs K O R n < 2 ^ cP K := by
  intro n
  induction n with
  | zero => intro _; exact h
  | succ n ih => intro hn; exact rSt_lt okk hn (ih (by omega))
theorem rIt_lt {K : Cty} {O p : Nat} (okk : okK K) (hp : p < cP K) : ∀ n, rIt K O p n < 2 ^ cP K := by
  intro n
  induction n with
  | zero => exact Nat.pow_lt_pow_right (by decide) hp
  | succ n ih => exact rPs_lt okk ih _ (Nat.le_refl _)
/-! it stands still within as many rounds as there are places -/
def cntB (R : Nat) : Nat → Nat
  | 0 => 0
  | n + 1 => cntB R n + (if R.testBit n = true then 1 else 0)
theorem cntB_le {R : Nat} : ∀ n, cntB R n ≤ n := by
  intro n
  induction n with
  | zero => exact Nat.le_refl _
  | succ n ih =>
    show cntB R n + (if R.testBit n = true then 1 else 0) ≤ n + 1
    split <;> omega
theorem cntB_mono {R R' : Nat} (h : sub R R') : ∀ n, cntB R n ≤ cntB R' n := by
  intro n
  induction n with
  | zero => exact Nat.le_refl _
  | succ n ih =>
    show cntB R n + (if R.testBit n = true then 1 else 0) ≤ cntB R' n + (if R'.testBit n = true then 1 else 0)
    by_cases c : R.testBit n = true
    · rw [if_pos c, if_pos (h n c)]; omega
    · rw [if_neg c]; omega
theorem cntB_lt {R R' k : Nat} (h : sub R R') (h1 : ¬ R.testBit k = true) (h2 : R'.testBit k = true) : ∀ n, k < n → cntB R n < cntB R' n := by
  intro n
  induction n with
  | zero => intro hk; omega
  | succ n ih =>
    intro hk
    show cntB R n + (if R.testBit n = true then 1 else 0) < cntB R' n + (if R'.testBit n = true then 1 else 0)
    by_cases c : k = n
    · subst c
      rw [if_neg h1, if_pos h2]
      have := cntB_mono h k
      omega
    · have := ih (by omega)
      by_cases c : R.testBit n = true
      · rw [if_pos c, if_pos (h n c)]; omega
      · rw [if_neg c]; omega
theorem cntB_all {R : Nat} : ∀ n, n ≤ cntB R n → ∀ k, k < n → R.testBit k = true := by
  intro n
  induction n with
  | zero => intro _ k h; omega
  | succ n ih =>
    intro h k hk
    have h : n + 1 ≤ cntB R n + (if R.testBit n = true then 1 else 0) := h
    have h3 := cntB_le (R := R) n
    by_cases c : R.testBit n = true
    · rw [if_pos c] at h
      by_cases c2 : k = n
      · rw [c2]; exact c
      · exact ih (by omega) k (by omega)
    · rw [if_neg c] at h; omega
theorem sub_ne {R R' n : Nat} (h : sub R R') (hR : R' < 2 ^ n) (hne : R' ≠ R) : ∃ k, k < n ∧ ¬ R.testBit k = true ∧ R'.testBit k = true := by
  apply Classical.byContradiction
  intro hno
  apply hne
  apply Nat.eq_of_testBit_eq
  intro k
  by_cases c1 : R.testBit k = true
  · rw [c1, h k c1]
  · by_cases c2 : R'.testBit k = true
    · exfalso
      apply hno
      refine ⟨k, ?_, c1, c2⟩
      apply Classical.byContradiction
      intro hk
      have := Nat.testBit_lt_two_pow (Nat.lt_of_lt_of_le hR (Nat.pow_le_pow_right (by decide) (show n ≤ k by omega)))
      rw [this] at c2
      cases c2
    · rw [Bool.not_eq_true] at c1 c2
      rw [c1, c2]
theorem rIt_inc {K : Cty} {O p n : Nat} : sub (rIt K O p n) (rIt K O p (n + 1)) := rPs_inc _
theorem rIt_stay {K : Cty} {O p m : Nat} (h : rIt K O p (m + 1) = rIt K O p m) : ∀ n, rIt K O p (m + n) = rIt K O p m := by
  intro n
  induction n with
  | zero => rfl
  | succ n ih =>
    show rPs K O (rIt K O p (m + n)) (cR K) = _
    rw [ih]; exact h
theorem rIt_grow {K : Cty} {O p : Nat} (okk : okK K) (hp : p < cP K) : ∀ n, (∃ m, m < n ∧ rIt K O p (m + 1) = rIt K O p m) ∨ n + 1 ≤ cntB (rIt K O p n) (cP K) := by
  intro n
  induction n with
  | zero =>
    right
    have h0 : (rIt K O p 0).testBit p = true := by show (2 ^ p).testBit p = true; rw [Nat.testBit_two_pow]; simp
    have := cntB_lt (R := 0) (R' := rIt K O p 0) (k := p) (fun k h => by rw [Nat.zero_testBit] at h; cases h) (by rw [Nat.zero_testBit]; exact fun h => by cases h) h0 (cP K) hp
    omega
  | succ n ih =>
    rcases ih with ⟨m, h1, h2⟩ | h
    · exact Or.inl ⟨m, by omega, h2⟩
    · by_cases c : rIt K O p (n + 1) = rIt K O p n
      · exact Or.inl ⟨n, by omega, c⟩
      · right
        obtain ⟨k, hk, h1, h2⟩ := sub_ne rIt_inc (rIt_lt okk hp (n + 1)) c
        have := cntB_lt rIt_inc h1 h2 (cP K) hk
        omega
theorem rIt_full {K : Cty} {O p n : Nat} (okk : okK K) (hp : p < cP K) (h : cP K ≤ cntB (rIt K O p n) (cP K)) : rIt K O p (n + 1) = rIt K O p n := by
  apply Classical.byContradiction
  intro c
  obtain ⟨k, hk, h1, h2⟩ := sub_ne rIt_inc (rIt_lt okk hp (n + 1)) c
  exact h1 (cntB_all _ h k hk)
theorem rIt_fix {K : Cty} {O p : Nat} (okk : okK K) (hp : p < cP K) : ∃ m, m ≤ cP K - 1 ∧ rIt K O p (m + 1) = rIt K O p m ∧ ∀ i, i < m → rIt K O p (i + 1) ≠ rIt K O p i := by
  have hex : ∃ m, m ≤ cP K - 1 ∧ rIt K O p (m + 1) = rIt K O p m := by
    rcases rIt_grow (O := O) okk hp (cP K - 1) with ⟨m, h1, h2⟩ | h
    · exact ⟨m, by omega, h2⟩
    · exact ⟨cP K - 1, Nat.le_refl _, rIt_full okk hp (by omega)⟩
  obtain ⟨m0, h1, h2⟩ := hex
  rcases first_of (fun i => rIt K O p (i + 1) = rIt K O p i) (fun i => Decidable.em _) m0 with ⟨m, a, b, c⟩ | h
  · exact ⟨m, by omega, b, c⟩
  · exact absurd h2 (h m0 (Nat.le_refl _))
theorem rch_at {K : Cty} {O p m : Nat} (hm : m ≤ 7) (h : rIt K O p (m + 1) = rIt K O p m) : rch K O p = rIt K O p m := by
  have := rIt_stay h (7 - m)
  rw [show m + (7 - m) = 7 by omega] at this
  exact this
theorem rch_lt {K : Cty} {O p : Nat} (okk : okK K) (hp : p < cP K) : rch K O p < 2 ^ cP K := rIt_lt okk hp 7
theorem p128 {K : Cty} {R : Nat} (okk : okK K) (h : R < 2 ^ cP K) : R < 128 := Nat.lt_of_lt_of_le h (Nat.pow_le_pow_right (n := 2) (by decide) okk.1)
/-! the class -/
theorem and_ends {R a b : Nat} (hR : R < 128) : (nI R &&& (nI (2 ^ a) ||| nI (2 ^ b)) = 0) ↔ ¬ (R.testBit a = true ∨ R.testBit b = true) := by
  rw [nI_or, nI_and, nJ_0]
  have hle : R &&& (2 ^ a ||| 2 ^ b) < 128 := Nat.lt_of_le_of_lt Nat.and_le_left hR
  rw [nJ_eq (by omega) (by decide)]
  constructor
  · intro h hc
    rcases hc with hc | hc
    · have := congrArg (fun x => x.testBit a) h
      simp [Nat.testBit_and, Nat.testBit_or, Nat.testBit_two_pow, hc] at this
    · have := congrArg (fun x => x.testBit b) h
      simp [Nat.testBit_and, Nat.testBit_or, Nat.testBit_two_pow, hc] at this
  · intro h
    apply Nat.eq_of_testBit_eq
    intro k
    rw [Nat.zero_testBit, Nat.testBit_and, Nat.testBit_or, Nat.testBit_two_pow, Nat.testBit_two_pow]
    by_cases c1 : a = k
    · subst c1
      have : R.testBit a = false := by rw [← Bool.not_eq_true]; exact fun hh => h (Or.inl hh)
      rw [this]; rfl
    · by_cases c2 : b = k
      · subst c2
        have : R.testBit b = false := by rw [← Bool.not_eq_true]; exact fun hh => h (Or.inr hh)
        rw [this]; rfl
      · simp [c1, c2]
theorem cpass_ok {N R O : Nat} {K : Cty} {σ : sgS} {x1 x2 x4 : Int32} (hN : 10000 ≤ N) (okk : okK K) (hK : CK K σ) (hR : R < 2 ^ cP K) : sg_lp (fun x : Int32 × Int32 => f_X5_reachedFrom_L25 N x1 (nI O) x2 x4 x.1 x.2 σ) N ((nI R, 0)) = some (.inr (nI (rPs K O R (cR K)))) := by
  have hr12 := okk.2.1
  have hp7 := okk.1
  exact lp_for (b := fun x : Int32 × Int32 => f_X5_reachedFrom_L25 N x1 (nI O) x2 x4 x.1 x.2 σ) (fun k => (nI (rPs K O R k), nI k)) (cR K) (nI (rPs K O R (cR K))) (fun k hk => by
    show f_X5_reachedFrom_L25 N x1 (nI O) x2 x4 (nI (rPs K O R k)) (nI k) σ = some (.inr (.inl (nI (rSt K O (rPs K O R k) k), nI (k + 1))))
    have hc := okk.2.2.2.2.2.2.1 k hk
    obtain ⟨a1, a2, -, -⟩ := hK.2.2.2.2.2.1 k hk
    have hlt := p128 okk (rPs_lt (O := O) okk hR k (by omega))
    unfold f_X5_reachedFrom_L25 rSt
    rw [hK.2.1, if_neg (by rw [nJ_le (by omega) (by omega)]; omega), ld_ok (by omega) (by decide), ld_ok (by omega) (by decide), a1, a2, shr_nI (by omega), shl_1 (by omega), shl_1 (by omega), nJ_addL]
    by_cases c1 : O.testBit k = true
    · rw [if_neg (by rw [if_pos c1]; decide)]
      by_cases c2 : (rPs K O R k).testBit (cA K k) = true ∨ (rPs K O R k).testBit (cB K k) = true
      · rw [if_neg (by rw [and_ends hlt]; exact fun h => h c2), if_pos ⟨c1, c2⟩, nI_or, nI_or]
      · rw [if_pos (by rw [and_ends hlt]; exact c2), if_neg (fun h => c2 h.2)]
    · rw [if_pos (by rw [if_neg c1]), if_neg (fun h => c1 h.1)]) (by
    show f_X5_reachedFrom_L25 N x1 (nI O) x2 x4 _ (nI (cR K)) σ = _
    unfold f_X5_reachedFrom_L25
    rw [hK.2.1, if_pos (by rw [nJ_le (by omega) (by omega)]; omega)]) N 0 (by omega) (by omega)
theorem reachedFrom_ok {N p O : Nat} {K : Cty} {σ : sgS} (hN : 10000 ≤ N) (okk : okK K) (hK : CK K σ) (hp : p < cP K) : f_X5_reachedFrom N (nI p) (nI O) σ = some (nI (rch K O p)) := by
  have hp7 := okk.1
  obtain ⟨m, hm, hf, hne⟩ := rIt_fix (O := O) okk hp
  rw [rch_at (by omega) hf]
  have stp : ∀ i, i + 1 < cP K → f_X5_reachedFrom_L7 N (nI p) (nI O) (nI (rIt K O p i)) (nI (i + 1)) σ = if rIt K O p (i + 1) = rIt K O p i then some (.inl (nI (rIt K O p (i + 1)))) else some (.inr (.inl (nI (rIt K O p (i + 1)), nI (i + 1 + 1)))) := by
    intro i hi
    have l1 := p128 okk (rIt_lt (O := O) okk hp i)
    have l2 := p128 okk (rIt_lt (O := O) okk hp (i + 1))
    unfold f_X5_reachedFrom_L7
    rw [hK.1, if_neg (by rw [nJ_le (by omega) (by omega)]; omega), cpass_ok hN okk hK (rIt_lt okk hp i)]
    simp only [sg_lb]
    show (if nI (rIt K O p (i + 1)) = nI (rIt K O p i) then _ else _) = _
    by_cases c : rIt K O p (i + 1) = rIt K O p i
    · rw [if_pos (by rw [c]), if_pos c]; rfl
    · rw [if_neg (by rw [nJ_eq (by omega) (by omega)]; exact c), if_neg c, nJ_addL]; rfl
  obtain ⟨⟨r2, x2⟩, ⟨q1, q2⟩, e⟩ := lp_go (b := fun x : Int32 × Int32 => f_X5_reachedFrom_L7 N (nI p) (nI O) x.1 x.2 σ) (n := m) (fun i x => x.1 = nI (rIt K O p i) ∧ x.2 = nI (i + 1)) (by
    rintro i ⟨r, x⟩ hi ⟨g1, g2⟩
    have g1 : r = _ := g1
    have g2 : x = _ := g2
    subst g1 g2
    refine ⟨(nI (rIt K O p (i + 1)), nI (i + 1 + 1)), ?_, rfl, rfl⟩
    show f_X5_reachedFrom_L7 N (nI p) (nI O) (nI (rIt K O p i)) (nI (i + 1)) σ = _
    rw [stp i (by omega), if_neg (hne i hi)]) m 0 N ((1 <<< (nI p &&& 31), 1)) (by omega) (by omega) ⟨by show (1 : Int32) <<< (nI p &&& 31) = nI (2 ^ p); rw [shl_1 (by omega)], rfl⟩
  have q1 : r2 = _ := q1
  have q2 : x2 = _ := q2
  subst q1 q2
  unfold f_X5_reachedFrom
  rw [e, show N - m = (N - m - 1) + 1 by omega]
  by_cases c : m + 1 < cP K
  · rw [lp_ret (r := nI (rIt K O p m)) (by show f_X5_reachedFrom_L7 N (nI p) (nI O) (nI (rIt K O p m)) (nI (m + 1)) σ = _; rw [stp m c, if_pos hf, hf])]
    rfl
  · rw [lp_out (y := nI (rIt K O p m)) (by
      show f_X5_reachedFrom_L7 N (nI p) (nI O) (nI (rIt K O p m)) (nI (m + 1)) σ = _
      unfold f_X5_reachedFrom_L7
      rw [hK.1, if_pos (by rw [nJ_le (by omega) (by omega)]; omega)])]
    rfl
def mts (K : Cty) (O p q : Nat) : Bool := (rch K O p).testBit q
theorem meets_ok {N p q O : Nat} {K : Cty} {σ : sgS} (hN : 10000 ≤ N) (okk : okK K) (hK : CK K σ) (hp : p < cP K) (hq : q < cP K) : f_X5_meets N (nI p) (nI q) (nI O) σ = some (if mts K O p q then 1 else 0) := by
  have hp7 := okk.1
  unfold f_X5_meets mts
  rw [reachedFrom_ok hN okk hK hp]
  simp only [sg_cr]
  rw [shr_nI (by omega)]
  cases (rch K O p).testBit q <;> rfl
/-! the reference -/
theorem or_both {R a b : Nat} (ha : R.testBit a = true) (hb : R.testBit b = true) : R ||| (2 ^ a ||| 2 ^ b) = R := by
  apply Nat.eq_of_testBit_eq
  intro k
  rw [Nat.testBit_or, Nat.testBit_or, Nat.testBit_two_pow, Nat.testBit_two_pow]
  by_cases c1 : a = k
  · subst c1; rw [ha]; rfl
  · by_cases c2 : b = k
    · subst c2; rw [hb]; rfl
    · simp [c1, c2]
theorem mpass_ok {N R O : Nat} {K : Cty} {τ : sgS} {x1 : Int32} (hN : 10000 ≤ N) (okk : okK K) (hK : MK K τ) (hR : R < 2 ^ cP K) : sg_lp (fun x : Int32 × Int32 × Int32 => f_X12_reachBy_L18 N x1 (nI O) x.1 x.2.1 x.2.2 τ) N ((nI R, 0, 0)) = some (.inr (nI (rPs K O R (cR K)), if rPs K O R (cR K) = R then 0 else 1)) := by
  have hr12 := okk.2.1
  have hp7 := okk.1
  have key := lp_for (b := fun x : Int32 × Int32 × Int32 => f_X12_reachBy_L18 N x1 (nI O) x.1 x.2.1 x.2.2 τ) (fun k => (nI (rPs K O R k), (if rPs K O R k = R then 0 else 1), nI k)) (cR K) (nI (rPs K O R (cR K)), if rPs K O R (cR K) = R then 0 else 1) (fun k hk => by
    show f_X12_reachBy_L18 N x1 (nI O) (nI (rPs K O R k)) (if rPs K O R k = R then 0 else 1) (nI k) τ = some (.inr (.inl (nI (rSt K O (rPs K O R k) k), (if rSt K O (rPs K O R k) k = R then 0 else 1), nI (k + 1))))
    have hc := okk.2.2.2.2.2.2.1 k hk
    obtain ⟨a1, a2, -, -⟩ := hK.2.2.2.2.2.1 k hk
    have o0 : f_X12_of N (nI k) 0 τ = some (nI (cA K k)) := of_ok (k := 0) (by omega) a1
    have o1 : f_X12_of N (nI k) 1 τ = some (nI (cB K k)) := of_ok (k := 1) (by omega) a2
    have hlt := p128 okk (rPs_lt (O := O) okk hR k (by omega))
    unfold f_X12_reachBy_L18
    rw [hK.2.1, if_neg (by rw [nJ_le (by omega) (by omega)]; omega), has_nI (by omega), o0, o1]
    simp only [sg_cr]
    rw [has_nI (by omega), has_nI (by omega), shl_1 (by omega), shl_1 (by omega), nJ_addL, nI_or, nI_or]
    by_cases c1 : O.testBit k = true
    · rw [if_neg (by rw [if_pos c1]; decide)]
      by_cases ca : (rPs K O R k).testBit (cA K k) = true
      · by_cases cb : (rPs K O R k).testBit (cB K k) = true
        · have er : rSt K O (rPs K O R k) k = rPs K O R k := by unfold rSt; rw [if_pos ⟨c1, Or.inl ca⟩, or_both ca cb]
          rw [er, if_pos ca, if_pos cb]
          rfl
        · have er : rSt K O (rPs K O R k) k = rPs K O R k ||| (2 ^ cA K k ||| 2 ^ cB K k) := by unfold rSt; rw [if_pos ⟨c1, Or.inl ca⟩]
          have hn : rSt K O (rPs K O R k) k ≠ R := by
            intro h
            have h1 : (rSt K O (rPs K O R k) k).testBit (cB K k) = true := rSt_bit.mpr (Or.inr ⟨c1, Or.inl ca, Or.inr rfl⟩)
            rw [h] at h1
            exact cb (rPs_inc k _ h1)
          rw [if_neg hn, er, if_pos ca, if_neg cb]
          rfl
      · by_cases cb : (rPs K O R k).testBit (cB K k) = true
        · have er : rSt K O (rPs K O R k) k = rPs K O R k ||| (2 ^ cA K k ||| 2 ^ cB K k) := by unfold rSt; rw [if_pos ⟨c1, Or.inr cb⟩]
          have hn : rSt K O (rPs K O R k) k ≠ R := by
            intro h
            have h1 : (rSt K O (rPs K O R k) k).testBit (cA K k) = true := rSt_bit.mpr (Or.inr ⟨c1, Or.inr cb, Or.inl rfl⟩)
            rw [h] at h1
            exact ca (rPs_inc k _ h1)
          rw [if_neg hn, er, if_neg ca, if_pos cb]
          rfl
        · have er : rSt K O (rPs K O R k) k = rPs K O R k := by unfold rSt; rw [if_neg (fun h => h.2.elim ca cb)]
          rw [er, if_neg ca, if_neg cb]
          rfl
    · have er : rSt K O (rPs K O R k) k = rPs K O R k := by unfold rSt; rw [if_neg (fun h => c1 h.1)]
      rw [if_pos (by rw [if_neg c1]), er]) (by
    show f_X12_reachBy_L18 N x1 (nI O) _ _ (nI (cR K)) τ = _
    unfold f_X12_reachBy_L18
    rw [hK.2.1, if_pos (by rw [nJ_le (by omega) (by omega)]; omega)]) N 0 (by omega) (by omega)
  have e0 : (if rPs K O R 0 = R then (0 : Int32) else 1) = 0 := if_pos rfl
  rw [e0] at key
  exact key
theorem reachBy_ok {N p O : Nat} {K : Cty} {τ : sgS} (hN : 10000 ≤ N) (okk : okK K) (hK : MK K τ) (hp : p < cP K) : f_X12_reachBy N (nI p) (nI O) τ = some (nI (rch K O p)) := by
  have hp7 := okk.1
  obtain ⟨m, hm, hf, hne⟩ := rIt_fix (O := O) okk hp
  rw [rch_at (by omega) hf]
  have stp : ∀ i, f_X12_reachBy_L7 N (nI p) (nI O) (nI (rIt K O p i)) 1 τ = some (.inr (.inl (nI (rIt K O p (i + 1)), if rIt K O p (i + 1) = rIt K O p i then 0 else 1))) := by
    intro i
    unfold f_X12_reachBy_L7
    rw [if_neg (by decide), mpass_ok hN okk hK (rIt_lt okk hp i)]
    rfl
  obtain ⟨⟨r2, x2⟩, ⟨q1, q2⟩, e⟩ := lp_go (b := fun x : Int32 × Int32 => f_X12_reachBy_L7 N (nI p) (nI O) x.1 x.2 τ) (n := m) (fun i x => x.1 = nI (rIt K O p i) ∧ x.2 = 1) (by
    rintro i ⟨r, x⟩ hi ⟨g1, g2⟩
    have g1 : r = _ := g1
    have g2 : x = _ := g2
    subst g1 g2
    refine ⟨_, stp i, rfl, ?_⟩
    exact if_neg (hne i hi)) m 0 N ((1 <<< (nI p &&& 31), 1)) (by omega) (by omega) ⟨by show (1 : Int32) <<< (nI p &&& 31) = nI (2 ^ p); rw [shl_1 (by omega)], rfl⟩
  have q1 : r2 = _ := q1
  have q2 : x2 = _ := q2
  subst q1 q2
  unfold f_X12_reachBy
  rw [e, show N - m = (N - m - 2) + 1 + 1 by omega, lp_step (stp m), if_pos hf, lp_out (y := nI (rIt K O p (m + 1))) (show f_X12_reachBy_L7 N (nI p) (nI O) (nI (rIt K O p (m + 1))) 0 τ = _ from if_pos rfl), hf]
  rfl
theorem openOnes_ok {N X : Nat} {K : Cty} {τ : sgS} (okk : okK K) (hK : MK K τ) (h31 : τ.1 21 31 = nI X) (hX : X < 2 ^ cR K) : f_X12_openOnes N τ = some (nI (opn K X)) := by
  unfold f_X12_openOnes
  rw [ld_okL (by decide) (by decide), h31, hK.2.1, opn_ok okk.2.1 hX]
