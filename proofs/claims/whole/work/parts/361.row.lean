/-! ROW: the fewest places, then the least number -/
section ROWS
variable (K : Cty) (H : Nat → Nat) (X t : Nat)
def ldB (p o : Nat) : Bool := decide (fwW K H X p t < 100000 ∧ fwD K H X p o < 100000 ∧ fwD K H X p o + fwW K H X o t = fwW K H X p t)
def hsL : Nat → Nat → Prop
  | 0, p => p = t
  | n + 1, p => ∃ o, o < cP K ∧ ldB K H X t p o = true ∧ hsL n o
theorem ld_lt {p o : Nat} (oH : okH K H) (h : ldB K H X t p o = true) : fwW K H X o t < fwW K H X p t ∧ fwW K H X p t < 100000 ∧ fwD K H X p o < 100000 ∧ fwD K H X p o + fwW K H X o t = fwW K H X p t := by
  unfold ldB at h
  rw [decide_eq_true_eq] at h
  have := (fwD_bd (X := X) (i := p) (j := o) oH).1
  omega
theorem hsL_lt {p : Nat} (oH : okH K H) (okk : okK K) : ∀ n, hsL K H X t n p → p = t ∨ fwW K H X p t < 100000 := by
  intro n h
  match n, h with
  | 0, h => exact Or.inl h
  | n + 1, ⟨o, _, h, _⟩ => exact Or.inr (ld_lt K H X t oH h).2.1
/-- its places are as many as it is long, and one -/
theorem hsL_set (oH : okH K H) (okk : okK K) (ht : t < cP K) : ∀ n p, p < cP K → hsL K H X t n p → ∃ R, R < 2 ^ cP K ∧ cntB R (cP K) = n + 1 ∧ ∀ q, R.testBit q = true → fwW K H X q t ≤ fwW K H X p t := by
  intro n
  induction n with
  | zero =>
    intro p hp h
    have h : p = t := h
    subst h
    refine ⟨2 ^ p, Nat.pow_lt_pow_right (by decide) hp, ?_, fun q hq => ?_⟩
    · have hb : (2 ^ p).testBit p = true := by rw [Nat.testBit_two_pow]; simp
      have hc := (rmv_cnt hb (cP K)).2 hp
      have e : rmv (2 ^ p) p = 0 := by
        apply Nat.eq_of_testBit_eq
        intro k
        rw [rmv_bit, Nat.testBit_two_pow, Nat.zero_testBit]
        cases decide (p = k) <;> rfl
      rw [e, cntB_z] at hc
      omega
    · rw [Nat.testBit_two_pow, decide_eq_true_eq] at hq
      rw [← hq]; exact Nat.le_refl _
  | succ n ih =>
    rintro p hp ⟨o, ho, hl, hs⟩
    obtain ⟨R, r1, r2, r3⟩ := ih o ho hs
    have hlt := (ld_lt K H X t oH hl).1
    have hnb : R.testBit p = false := by
      rw [← Bool.not_eq_true]
      intro hb
      have := r3 p hb
      omega
    have hb : (R ||| 2 ^ p).testBit p = true := by rw [Nat.testBit_or, Nat.testBit_two_pow]; simp
    have e : rmv (R ||| 2 ^ p) p = R := by
      apply Nat.eq_of_testBit_eq
      intro k
      rw [rmv_bit, Nat.testBit_or, Nat.testBit_two_pow]
      by_cases c : p = k
      · subst c; rw [hnb]; simp
      · simp [c]
    refine ⟨R ||| 2 ^ p, Nat.or_lt_two_pow r1 (Nat.pow_lt_pow_right (by decide) hp), ?_, fun q hq => ?_⟩
    · have hc := (rmv_cnt hb (cP K)).2 hp
      rw [e] at hc
      omega
    · rw [Nat.testBit_or, Bool.or_eq_true, Nat.testBit_two_pow, decide_eq_true_eq] at hq
      rcases hq with hq | hq
      · have := r3 q hq; omega
      · rw [← hq]; exact Nat.le_refl _
theorem hsL_le (oH : okH K H) (okk : okK K) (ht : t < cP K) {n p : Nat} (hp : p < cP K) (h : hsL K H X t n p) : n + 1 ≤ cP K := by
  obtain ⟨R, -, r2, -⟩ := hsL_set K H X t oH okk ht n p hp h
  have := cntB_le (R := R) (cP K)
  omega
theorem hsL_ex (oH : okH K H) (okk : okK K) : ∀ d p, p < cP K → fwW K H X p t ≤ d → fwW K H X p t < 100000 → ∃ n, hsL K H X t n p := by
  intro d
  induction d with
  | zero =>
    intro p hp h1 h2
    by_cases c : p = t
    · exact ⟨0, c⟩
    · obtain ⟨o, o1, o2, o3⟩ := fwW_step (X := X) okk c h2
      have := (fwD_bd (X := X) (i := p) (j := o) oH).1
      omega
  | succ d ih =>
    intro p hp h1 h2
    by_cases c : p = t
    · exact ⟨0, c⟩
    · obtain ⟨o, o1, o2, o3⟩ := fwW_step (X := X) okk c h2
      have := (fwD_bd (X := X) (i := p) (j := o) oH).1
      obtain ⟨n, hn⟩ := ih o o1 (by omega) (by omega)
      refine ⟨n + 1, o, o1, ?_, hn⟩
      unfold ldB
      rw [decide_eq_true_eq]
      exact ⟨h2, o2, o3⟩
variable (v : Nat → Nat)
/-- v tells the fewest steps -/
def isV : Prop := ∀ p, p < cP K → fwW K H X p t < 100000 → hsL K H X t (v p) p ∧ ∀ m, hsL K H X t m p → v p ≤ m
def isR : Nat → Nat → Nat → Nat → Prop
  | 0, p, r, R => p = t ∧ R = r
  | n + 1, p, r, R => ∃ o, o < cP K ∧ ldB K H X t p o = true ∧ v o = n ∧ (∀ o', o' < o → ¬ (ldB K H X t p o' = true ∧ v o' = n)) ∧ isR n o (10 * r + o) R
theorem isR_bd (okk : okK K) : ∀ n p r R, isR K H X t v n p r R → r * 10 ^ n ≤ R ∧ R < (r + 1) * 10 ^ n := by
  have hp7 := okk.1
  intro n
  induction n with
  | zero => rintro p r R ⟨-, rfl⟩; rw [Nat.pow_zero]; omega
  | succ n ih =>
    rintro p r R ⟨o, o1, -, -, -, o5⟩
    obtain ⟨h1, h2⟩ := ih _ _ _ o5
    have e : 10 ^ (n + 1) = 10 * 10 ^ n := by rw [Nat.pow_succ, Nat.mul_comm]
    rw [e]
    constructor
    · refine Nat.le_trans ?_ h1
      rw [← Nat.mul_assoc]
      exact Nat.mul_le_mul_right _ (by omega)
    · refine Nat.lt_of_lt_of_le h2 ?_
      rw [← Nat.mul_assoc]
      exact Nat.mul_le_mul_right _ (by omega)
theorem isR_ex (oH : okH K H) (okk : okK K) (ht : t < cP K) (hv : isV K H X t v) : ∀ n p r, p < cP K → fwW K H X p t < 100000 → v p = n → ∃ R, isR K H X t v n p r R := by
  intro n
  induction n with
  | zero =>
    intro p r hp h1 h2
    have := (hv p hp h1).1
    rw [h2] at this
    exact ⟨r, this, rfl⟩
  | succ n ih =>
    intro p r hp h1 h2
    obtain ⟨a1, a2⟩ := hv p hp h1
    rw [h2] at a1
    obtain ⟨o, o1, o2, o3⟩ := a1
    have hlt := ld_lt K H X t oH o2
    have vo : v o = n := by
      obtain ⟨b1, b2⟩ := hv o o1 (by omega)
      have h3 := b2 n o3
      have h4 := a2 (v o + 1) ⟨o, o1, o2, b1⟩
      omega
    rcases first_of (fun o => ldB K H X t p o = true ∧ v o = n) (fun o => Decidable.em _) o with ⟨m, m1, m2, m3⟩ | h
    · have hlt2 := ld_lt K H X t oH m2.1
      obtain ⟨R, hR⟩ := ih m (10 * r + m) (by omega) (by omega) m2.2
      exact ⟨R, m, by omega, m2.1, m2.2, m3, hR⟩
    · exact absurd ⟨o2, vo⟩ (h o (Nat.le_refl _))
end ROWS
/-- the better: fewer, then less -/
def ups (b : Option (Nat × Nat)) (x : Nat × Nat) : Option (Nat × Nat) := match b with
  | none => some x
  | some y => if x.1 < y.1 ∨ (x.1 = y.1 ∧ x.2 < y.2) then some x else some y
theorem ups_lt {b : Option (Nat × Nat)} {x z : Nat × Nat} (h : z.1 < x.1 ∨ (z.1 = x.1 ∧ z.2 < x.2)) : ups (ups b x) z = ups b z := by
  match b with
  | none =>
    show (if z.1 < x.1 ∨ (z.1 = x.1 ∧ z.2 < x.2) then some z else some x) = some z
    rw [if_pos h]
  | some y =>
    show ups (if x.1 < y.1 ∨ (x.1 = y.1 ∧ x.2 < y.2) then some x else some y) z = if z.1 < y.1 ∨ (z.1 = y.1 ∧ z.2 < y.2) then some z else some y
    by_cases c : x.1 < y.1 ∨ (x.1 = y.1 ∧ x.2 < y.2)
    · rw [if_pos c]
      show (if z.1 < x.1 ∨ (z.1 = x.1 ∧ z.2 < x.2) then some z else some x) = _
      rw [if_pos h, if_pos (by omega)]
    · rw [if_neg c]; rfl
theorem ups_ge {b : Option (Nat × Nat)} {x z : Nat × Nat} (h : z.1 < x.1 ∨ (z.1 = x.1 ∧ z.2 ≤ x.2)) : ups (ups b z) x = ups b z := by
  match b with
  | none =>
    show (if x.1 < z.1 ∨ (x.1 = z.1 ∧ x.2 < z.2) then some x else some z) = some z
    rw [if_neg (by omega)]
  | some y =>
    show ups (if z.1 < y.1 ∨ (z.1 = y.1 ∧ z.2 < y.2) then some z else some y) x = (if z.1 < y.1 ∨ (z.1 = y.1 ∧ z.2 < y.2) then some z else some y)
    by_cases c : z.1 < y.1 ∨ (z.1 = y.1 ∧ z.2 < y.2)
    · rw [if_pos c]
      show (if x.1 < z.1 ∨ (x.1 = z.1 ∧ x.2 < z.2) then some x else some z) = some z
      rw [if_neg (by omega)]
    · rw [if_neg c]
      show (if x.1 < y.1 ∨ (x.1 = y.1 ∧ x.2 < y.2) then some x else some y) = some y
      rw [if_neg (by omega)]
/-! the reference: best is (places, row) -/
def rsM (b : Option (Nat × Nat)) (τ : sgS) : Prop := match b with
  | none => τ.1 0 46 = -1
  | some q => τ.1 0 46 = nI q.2 ∧ τ.1 0 48 = nI q.1
def okR (b : Option (Nat × Nat)) : Prop := ∀ q, b = some q → q.1 ≤ 8 ∧ q.2 < 100000000
theorem okR_ups {b : Option (Nat × Nat)} {x : Nat × Nat} (h : okR b) (h1 : x.1 ≤ 8) (h2 : x.2 < 100000000) : okR (ups b x) := by
  match b, h with
  | none, h => exact fun q hq => by cases hq; exact ⟨h1, h2⟩
  | some y, h =>
    show okR (if x.1 < y.1 ∨ (x.1 = y.1 ∧ x.2 < y.2) then some x else some y)
    split
    · exact fun q hq => by cases hq; exact ⟨h1, h2⟩
    · exact h
theorem tryRow_ok {K : Cty} {H : Nat → Nat} {X t : Nat} {v : Nat → Nat} (okk : okK K) (oH : okH K H) (ht : t < cP K) (hv : isV K H X t v) : ∀ n d p r m R b τ, n ≤ d → (∀ q, hsL K H X t q p → q < n) → m + n ≤ 8 → p < cP K → fwW K H X p t < 100000 → r < 10 ^ m → isR K H X t v (v p) p r R → MK K τ → netM K H X τ → rsM b τ → okR b → ∃ τ', f_X12_tryRow d 10000 (nI p) (nI t) (nI r) (nI m) τ = some (0, τ') ∧ rsM (ups b (m + v p, R)) τ' ∧ okR (ups b (m + v p, R)) ∧ Fr p0b τ τ' := by
  have hp7 := okk.1
  intro n
  induction n with
  | zero =>
    intro d p r m R b τ _ hq _ hp hW
    have := hq (v p) (hv p hp hW).1
    omega
  | succ n ih =>
    intro d p r m R b τ hd hq hmn hp hW hr hR hK hn hB hb
    obtain ⟨d, rfl⟩ : ∃ q, d = q + 1 := ⟨d - 1, by omega⟩
    obtain ⟨v1, v2⟩ := hv p hp hW
    have hvn := hq _ v1
    have bR := isR_bd K H X t v okk _ _ _ _ hR
    have hr8 := pow8 (n := m) (by omega)
    have hR8 : R < 100000000 := by
      have h1 : (r + 1) * 10 ^ v p ≤ 10 ^ m * 10 ^ v p := Nat.mul_le_mul_right _ (by omega)
      rw [← Nat.pow_add] at h1
      have h2 := pow8 (n := m + v p) (by omega)
      omega
    have oU := okR_ups (x := (m + v p, R)) hb (by show m + v p ≤ 8; omega) hR8
    show ∃ τ', f_X12_tryRow_b 10000 (f_X12_tryRow d 10000) (nI p) (nI t) (nI r) (nI m) τ = some (0, τ') ∧ _
    by_cases c : p = t
    · subst c
      have v0 : v p = 0 := by have := v2 0 rfl; omega
      rw [v0] at hR oU ⊢
      obtain ⟨-, rfl⟩ := hR
      rw [Nat.add_zero] at oU ⊢
      have set : rsM (some (m, R)) (sg_up (sg_up τ 0 46 (nI R)) 0 48 (nI m)) := ⟨by rw [up_nk (by decide), up_at], up_at⟩
      have frm : Fr p0b τ (sg_up (sg_up τ 0 46 (nI R)) 0 48 (nI m)) := Fr.tr (Fr.up ⟨rfl, Or.inl rfl⟩) (Fr.up ⟨rfl, Or.inr (Or.inr rfl)⟩)
      unfold f_X12_tryRow_b
      rw [if_pos rfl, pf_eq, pf_eq]
      match b, hB, hb, oU with
      | none, hB, hb, oU =>
        have hB : τ.1 0 46 = -1 := hB
        rw [hB, if_pos rfl]
        exact ⟨_, rfl, set, oU, frm⟩
      | some y, hB, hb, oU =>
        have hy := hb y rfl
        have eu : ups (some y) (m, R) = if m < y.1 ∨ (m = y.1 ∧ R < y.2) then some (m, R) else some y := rfl
        rw [hB.1, hB.2, if_neg (by rw [nJ_ne_neg (by omega)]; exact id)]
        rw [eu] at oU ⊢
        by_cases c1 : m < y.1
        · rw [if_pos (by rw [nJ_lt (by omega) (by omega)]; exact c1)]
          rw [if_pos (Or.inl c1)] at oU ⊢
          exact ⟨_, rfl, set, oU, frm⟩
        · rw [if_neg (by rw [nJ_lt (by omega) (by omega)]; exact c1)]
          by_cases c2 : m = y.1
          · rw [if_pos (by rw [c2])]
            by_cases c3 : R < y.2
            · rw [if_neg (by rw [nJ_le (by omega) (by omega)]; omega)]
              rw [if_pos (Or.inr ⟨c2, c3⟩)] at oU ⊢
              exact ⟨_, rfl, set, oU, frm⟩
            · rw [if_pos (by rw [nJ_le (by omega) (by omega)]; omega)]
              rw [if_neg (by omega)] at oU ⊢
              exact ⟨_, rfl, hB, oU, Fr.rf⟩
          · rw [if_neg (by rw [nJ_eq (by omega) (by omega)]; exact c2)]
            rw [if_neg (by omega)] at oU ⊢
            exact ⟨_, rfl, hB, oU, Fr.rf⟩
    · obtain ⟨e, ve⟩ : ∃ e, v p = e + 1 := by
        rcases Nat.eq_zero_or_pos (v p) with h | h
        · rw [h] at v1; exact absurd v1 c
        · exact ⟨v p - 1, by omega⟩
      rw [ve] at hR oU v1 ⊢
      obtain ⟨z, z1, z2, z3, z4, z5⟩ := hR
      have bz := isR_bd K H X t v okk _ _ _ _ z5
      -- what a lead gives
      have leads : ∀ o, o < cP K → ldB K H X t p o = true → ∃ Ro, isR K H X t v (v o) o (10 * r + o) Ro ∧ fwW K H X o t < 100000 ∧ e ≤ v o ∧ (∀ q, hsL K H X t q o → q < n) := by
        intro o ho hl
        have hlt := ld_lt K H X t oH hl
        obtain ⟨b1, b2⟩ := hv o ho (by omega)
        obtain ⟨Ro, hRo⟩ := isR_ex K H X t v oH okk ht hv (v o) o (10 * r + o) ho (by omega) rfl
        have h4 := v2 (v o + 1) ⟨o, ho, hl, b1⟩
        exact ⟨Ro, hRo, by omega, by omega, fun q hs => by have := hq (q + 1) ⟨o, ho, hl, hs⟩; omega⟩
      unfold f_X12_tryRow_b
      rw [if_neg (by rw [nJ_eq (by omega) (by omega)]; exact c)]
      obtain ⟨τ', en, b', g1, g2, g3, g4⟩ := lp_st (b := fun x : sgS × Int32 => f_X12_tryRow_b_L54 10000 (f_X12_tryRow d 10000) (nI p) (nI t) (nI r) (nI m) x.2 x.1) (n := cP K) (fun k s => ∃ b', rsM b' s ∧ okR b' ∧ Fr p0b τ s ∧ (if k ≤ z then ups b' (m + (e + 1), R) = ups b (m + (e + 1), R) else b' = ups b (m + (e + 1), R))) (by
        rintro k s hk ⟨b', g1, g2, g3, g4⟩
        have K1 : MK K s := MK_fr hK (fun j a b => funext fun q => g3 j q (by unfold p0b; omega)) (fun q a b => g3 0 q (by unfold p0b; omega))
        have n1 := netM_fr hn g3
        have bk := fwW_bd (X := X) (i := k) (j := t) okk oH
        have bp := fwW_bd (X := X) (i := p) (j := t) okk oH
        have bd := fwD_bd (X := X) (i := p) (j := k) oH
        -- the machine's step
        have ev : f_X12_tryRow_b_L54 10000 (f_X12_tryRow d 10000) (nI p) (nI t) (nI r) (nI m) (nI k) s = if ldB K H X t p k = true then (sg_cl (f_X12_tryRow d 10000 (nI k) (nI t) (nI (10 * r + k)) (nI (m + 1)) s) fun v5 s6 => some (.inr (.inl (s6, nI (k + 1))))) else some (.inr (.inl (s, nI (k + 1)))) := by
          unfold f_X12_tryRow_b_L54
          rw [K1.1, if_neg (by rw [nJ_le (by omega) (by omega)]; omega), nJ_Lmul, nJ_add, ld_ok (by omega) (by decide), (n1.1 p k (by omega) (by omega)).1, ld_ok (by omega) (by decide), (n1.1 p k (by omega) (by omega)).1, awayOf_ok n1 (by omega) (by omega), cr_some, awayOf_ok n1 (by omega) (by omega), cr_some, nJ_Lmul, nJ_add, nJ_add, nJ_addL, nJ_addL]
          by_cases c1 : k = p
          · rw [if_pos (by rw [c1]), if_neg]
            intro h
            have := ld_lt K H X t oH h
            rw [c1] at this
            omega
          · rw [if_neg (by rw [nJ_eq (by omega) (by omega)]; exact c1)]
            by_cases c2 : fwD K H X p k < 100000
            · rw [if_neg (by rw [nJ_Lle (by omega) (by decide)]; omega)]
              by_cases c3 : fwD K H X p k + fwW K H X k t = fwW K H X p t
              · rw [if_pos (by rw [c3]), if_pos (show ldB K H X t p k = true by unfold ldB; rw [decide_eq_true_eq]; exact ⟨hW, c2, c3⟩)]
              · rw [if_neg (by rw [nJ_eq (by omega) (by omega)]; exact c3), if_neg]
                intro h
                exact c3 (ld_lt K H X t oH h).2.2.2
            · rw [if_pos (by rw [nJ_Lle (by omega) (by decide)]; omega), if_neg]
              intro h
              exact c2 (ld_lt K H X t oH h).2.2.1
        show ∃ σ', f_X12_tryRow_b_L54 10000 (f_X12_tryRow d 10000) (nI p) (nI t) (nI r) (nI m) (nI k) s = _ ∧ _
        rw [ev]
        by_cases cl : ldB K H X t p k = true
        · obtain ⟨Ro, h1, h2, h3, h4⟩ := leads k hk cl
          have br := isR_bd K H X t v okk _ _ _ _ h1
          obtain ⟨s', q0, q1, q2, q3⟩ := ih d k (10 * r + k) (m + 1) Ro b' s (by omega) h4 (by omega) hk h2 (by rw [Nat.pow_succ]; omega) h1 K1 n1 g1 g2
          rw [if_pos cl, q0, cl_some]
          refine ⟨s', rfl, _, q1, q2, g3.tr q3, ?_⟩
          by_cases ck : k < z
          · rw [if_pos (by omega)] at g4 ⊢
            have hne : v k ≠ e := fun h => z4 k ck ⟨cl, h⟩
            rw [ups_lt (Or.inl (show m + (e + 1) < m + 1 + v k by omega))]
            exact g4
          · by_cases ck2 : k = z
            · subst ck2
              rw [if_pos (Nat.le_refl _)] at g4
              rw [if_neg (by omega)]
              have hRR : Ro = R := by
                have h5 := h1
                rw [z3] at h5
                clear h1 br q0 q1 q2
                -- both rows are the same
                have uniq : ∀ j a x y1 y2, isR K H X t v j a x y1 → isR K H X t v j a x y2 → y1 = y2 := by
                  intro j
                  induction j with
                  | zero => rintro a x y1 y2 ⟨-, rfl⟩ ⟨-, rfl⟩; rfl
                  | succ j ihj =>
                    rintro a x y1 y2 ⟨o1, a1, a2, a3, a4, a5⟩ ⟨o2, b1, b2, b3, b4, b5⟩
                    have : o1 = o2 := by
                      rcases Nat.lt_trichotomy o1 o2 with h | h | h
                      · exact absurd ⟨a2, a3⟩ (b4 o1 h)
                      · exact h
                      · exact absurd ⟨b2, b3⟩ (a4 o2 h)
                    subst this
                    exact ihj _ _ _ _ a5 b5
                exact uniq _ _ _ _ _ h5 z5
              rw [hRR, z3, show m + 1 + e = m + (e + 1) by omega]
              exact g4
            · rw [if_neg (by omega)] at g4 ⊢
              rw [g4]
              apply ups_ge
              show m + (e + 1) < m + 1 + v k ∨ (m + (e + 1) = m + 1 + v k ∧ R ≤ Ro)
              by_cases cv : v k = e
              · right
                refine ⟨by omega, ?_⟩
                rw [cv] at br
                have h7 : (10 * r + z + 1) * 10 ^ e ≤ (10 * r + k) * 10 ^ e := Nat.mul_le_mul_right _ (by omega)
                omega
              · left; omega
        · rw [if_neg cl]
          refine ⟨s, rfl, b', g1, g2, g3, ?_⟩
          by_cases ck : k < z
          · rw [if_pos (by omega)] at g4 ⊢; exact g4
          · by_cases ck2 : k = z
            · subst ck2; exact absurd z2 cl
            · rw [if_neg (by omega)] at g4 ⊢; exact g4) (by
        rintro s ⟨b', g1, g2, g3, g4⟩
        have K1 : MK K s := MK_fr hK (fun j a b => funext fun q => g3 j q (by unfold p0b; omega)) (fun q a b => g3 0 q (by unfold p0b; omega))
        show f_X12_tryRow_b_L54 10000 (f_X12_tryRow d 10000) (nI p) (nI t) (nI r) (nI m) (nI (cP K)) s = _
        unfold f_X12_tryRow_b_L54
        rw [K1.1, if_pos (by rw [nJ_le (by omega) (by omega)]; omega)]) 10000 0 τ (by omega) (by omega) ⟨b, hB, hb, Fr.rf, by rw [if_pos (by omega)]⟩
      have en : sg_lp (fun x : sgS × Int32 => f_X12_tryRow_b_L54 10000 (f_X12_tryRow d 10000) (nI p) (nI t) (nI r) (nI m) x.2 x.1) 10000 ((τ, 0)) = _ := en
      rw [if_neg (by omega)] at g4
      rw [en, lb_inr]
      refine ⟨τ', rfl, ?_, oU, g3⟩
      rw [← g4]; exact g1
/-! the class -/
theorem leadsOn_ok {K : Cty} {H : Nat → Nat} {X t p o : Nat} {σ : sgS} (okk : okK K) (oH : okH K H) (n : netC K H X σ) (ht : t < cP K) (hp : p < cP K) (ho : o < cP K) : f_X5_leadsOn 10000 (nI p) (nI o) (nI t) σ = some (if ldB K H X t p o then 1 else 0) := by
  have hp7 := okk.1
  have b1 := fwW_bd (X := X) (i := p) (j := t) okk oH
  have b2 := fwW_bd (X := X) (i := o) (j := t) okk oH
  have b3 := fwD_bd (X := X) (i := p) (j := o) oH
  unfold f_X5_leadsOn
  rw [reaches_ok okk n hp ht, cr_some]
  by_cases c1 : fwW K H X p t < 100000
  · rw [if_pos c1, if_neg nn10, rf_ok (by omega) (by decide), ld_ok (by omega) (by decide), (n.1 p o hp ho).1, rf_ok (by omega) (by decide), ld_ok (by omega) (by decide), (n.1 o t ho ht).2, rf_ok (by omega) (by decide), ld_ok (by omega) (by decide), (n.1 p t hp ht).2, fwC_lt c1, nJ_add]
    have d3 := fwC_bd b3.2.1
    have d2 := fwC_bd b2.1
    have e : (fwC (fwD K H X p o) + fwC (fwW K H X o t) = fwW K H X p t) ↔ ldB K H X t p o = true := by
      unfold ldB fwC
      rw [decide_eq_true_eq]
      constructor
      · intro h
        by_cases c2 : fwD K H X p o < 100000
        · rw [if_pos c2] at h
          by_cases c3 : fwW K H X o t < 100000
          · rw [if_pos c3] at h; exact ⟨c1, c2, h⟩
          · rw [if_neg c3] at h; omega
        · rw [if_neg c2] at h; omega
      · rintro ⟨-, c2, c3⟩
        rw [if_pos c2, if_pos (by omega)]; exact c3
    by_cases c2 : ldB K H X t p o = true
    · rw [if_pos (by rw [e.mpr c2]), c2]; rfl
    · rw [if_neg (by rw [nJ_eq (by omega) (by omega)]; exact fun h => c2 (e.mp h))]
      rw [Bool.not_eq_true] at c2
      rw [c2]; rfl
  · rw [if_neg c1, if_pos rfl]
    have : ldB K H X t p o = false := by
      unfold ldB
      exact decide_eq_false (fun h => c1 h.1)
    rw [this]; rfl
def p319 (j _k : Nat) : Prop := j = 319
/-- what the counts say so far: nothing wrong; right up to r -/
def ctI (K : Cty) (H : Nat → Nat) (X t : Nat) (u : Nat → Nat) : Prop := ∀ p, p < cP K → u p ≤ 7 ∧ (u p < 7 → hsL K H X t (u p) p)
def ctC (K : Cty) (H : Nat → Nat) (X t r : Nat) (u : Nat → Nat) : Prop := ∀ n, n ≤ r → ∀ p, p < cP K → hsL K H X t n p → u p ≤ n
theorem countTo_ok {K : Cty} {H : Nat → Nat} {X t : Nat} {σ : sgS} (okk : okK K) (oH : okH K H) (hK : CK K σ) (n : netC K H X σ) (ht : t < cP K) : ∃ σ' u, f_X5_countPlacesTo 10000 (nI t) σ = some (0, σ') ∧ (∀ p, p < cP K → σ'.1 319 p = nI (u p)) ∧ ctI K H X t u ∧ ctC K H X t (cP K - 1) u ∧ Fr p319 σ σ' := by
  have hp7 := okk.1
  have kp : ∀ {s}, Fr p319 σ s → CK K s ∧ netC K H X s := fun {s} f => ⟨CK_fr hK (fun j a b => funext fun q => f j q (by unfold p319; omega)), by
    obtain ⟨h1, h2, h3⟩ := n
    refine ⟨fun a b ha hb => ?_, ?_, fun r hr => ?_⟩
    · rw [f (304 + a) b (by unfold p319; omega), f (312 + a) b (by unfold p319; omega)]; exact h1 a b ha hb
    · rw [f 302 5 (by unfold p319; omega)]; exact h2
    · rw [f 51 r (by unfold p319; omega)]; exact h3 r hr⟩
  obtain ⟨σ1, e1, F1, A1⟩ := lp_st (b := fun x : sgS × Int32 => f_X5_countPlacesTo_L2 10000 (nI t) x.2 x.1) (n := cP K) (fun k s => Fr p319 σ s ∧ ∀ p, p < k → s.1 319 p = nI (if p = t then 0 else 7)) (by
    rintro k s hk ⟨g1, g2⟩
    obtain ⟨K1, n1⟩ := kp g1
    refine ⟨sg_up s 319 k (nI (if k = t then 0 else 7)), ?_, g1.tr (Fr.up rfl), fun p hp => ?_⟩
    · show f_X5_countPlacesTo_L2 10000 (nI t) (nI k) s = _
      unfold f_X5_countPlacesTo_L2
      rw [K1.1, if_neg (by rw [nJ_le (by omega) (by omega)]; omega), st_ok (by omega) (by decide), st_ok (by omega) (by decide), nJ_addL]
      by_cases c : k = t
      · rw [if_pos (by rw [c]), if_pos c]; rfl
      · rw [if_neg (by rw [nJ_eq (by omega) (by omega)]; exact c), if_neg c]; rfl
    · by_cases c : p = k
      · subst c; rw [up_at]
      · rw [up_nk c]; exact g2 p (by omega)) (by
    rintro s ⟨g1, -⟩
    obtain ⟨K1, n1⟩ := kp g1
    show f_X5_countPlacesTo_L2 10000 (nI t) (nI (cP K)) s = _
    unfold f_X5_countPlacesTo_L2
    rw [K1.1, if_pos (by rw [nJ_le (by omega) (by omega)]; omega)]) 10000 0 σ (by omega) (by omega) ⟨Fr.rf, fun p h => absurd h (Nat.not_lt_zero _)⟩
  -- one place, all next ones
  have inner : ∀ r x2 k s u, k < cP K → Fr p319 σ s → (∀ p, p < cP K → s.1 319 p = nI (u p)) → ctI K H X t u → ctC K H X t r u → ∃ s' u', sg_lp (fun x : sgS × Int32 => f_X5_countPlacesTo_L65 10000 (nI t) x2 (nI k) x.2 x.1) 10000 ((s, 0)) = some (.inr s') ∧ Fr p319 σ s' ∧ (∀ p, p < cP K → s'.1 319 p = nI (u' p)) ∧ ctI K H X t u' ∧ (∀ p, u' p ≤ u p) ∧ ∀ n, n ≤ r → hsL K H X t (n + 1) k → u' k ≤ n + 1 := by
    intro r x2 k s u hk f1 hu hI hC
    obtain ⟨s', q1, q2, u', q3, q4, q5, q6⟩ := lp_st (b := fun x : sgS × Int32 => f_X5_countPlacesTo_L65 10000 (nI t) x2 (nI k) x.2 x.1) (n := cP K) (fun i z => Fr p319 σ z ∧ ∃ u', (∀ p, p < cP K → z.1 319 p = nI (u' p)) ∧ ctI K H X t u' ∧ (∀ p, u' p ≤ u p) ∧ ∀ o, o < i → ldB K H X t k o = true → ∀ n, n ≤ r → hsL K H X t n o → u' k ≤ n + 1) (by
      rintro i z hi ⟨g1, u', g2, g3, g4, g5⟩
      obtain ⟨K1, n1⟩ := kp g1
      have h7k := (g3 k hk).1
      have h7i := (g3 i hi).1
      show ∃ σ', f_X5_countPlacesTo_L65 10000 (nI t) x2 (nI k) (nI i) z = _ ∧ _
      unfold f_X5_countPlacesTo_L65
      rw [K1.1, if_neg (by rw [nJ_le (by omega) (by omega)]; omega), leadsOn_ok okk oH n1 ht hk hi, cr_some, nJ_addL]
      cases hl : ldB K H X t k i with
      | false =>
        refine ⟨z, if_pos rfl, g1, u', g2, g3, g4, fun o ho hlo => ?_⟩
        by_cases c : o = i
        · subst c; rw [hl] at hlo; cases hlo
        · exact g5 o (by omega) hlo
      | true =>
        have ilt := ld_lt K H X t oH hl
        have ki : k ≠ i := by rintro rfl; omega
        refine ⟨sg_up z 319 k (nI (min (u' i + 1) (u' k))), ?_, g1.tr (Fr.up rfl), fun p => if p = k then min (u' i + 1) (u' k) else u' p, fun p hp => ?_, fun p hp => ?_, fun p => ?_, fun o ho hlo n hn hs => ?_⟩
        · rw [show (if true = true then (1 : Int32) else 0) = 1 from rfl, if_neg nn10, ld_ok (by omega) (by decide), g2 k hk, ld_ok (by omega) (by decide), g2 i hi, nJ_addL, st_ok (by omega) (by decide)]
          by_cases c : u' i + 1 < u' k
          · rw [if_pos (by rw [nJ_lt (by omega) (by omega)]; exact c), Nat.min_eq_left (by omega)]
          · rw [if_neg (by rw [nJ_lt (by omega) (by omega)]; exact c), Nat.min_eq_right (by omega)]
        · show _ = nI (if p = k then min (u' i + 1) (u' k) else u' p)
          by_cases c : p = k
          · rw [if_pos c, c, up_at]
          · rw [if_neg c, up_nk c]; exact g2 p hp
        · show (if p = k then min (u' i + 1) (u' k) else u' p) ≤ 7 ∧ ((if p = k then min (u' i + 1) (u' k) else u' p) < 7 → hsL K H X t (if p = k then min (u' i + 1) (u' k) else u' p) p)
          by_cases c : p = k
          · subst c
            rw [if_pos rfl]
            refine ⟨by omega, fun hlt => ?_⟩
            by_cases c2 : u' i + 1 ≤ u' p
            · rw [Nat.min_eq_left c2] at hlt ⊢
              exact ⟨i, hi, hl, (g3 i hi).2 (by omega)⟩
            · rw [Nat.min_eq_right (by omega)] at hlt ⊢
              exact (g3 p hk).2 hlt
          · rw [if_neg c]; exact g3 p hp
        · show (if p = k then min (u' i + 1) (u' k) else u' p) ≤ u p
          by_cases c : p = k
          · rw [if_pos c, c]; have := g4 k; omega
          · rw [if_neg c]; exact g4 p
        · show (if k = k then min (u' i + 1) (u' k) else u' k) ≤ n + 1
          rw [if_pos rfl]
          by_cases c : o = i
          · subst c
            have h1 := hC n hn o hi hs
            have h2 := g4 o
            omega
          · have := g5 o (by omega) hlo n hn hs
            omega) (by
      rintro z ⟨g1, -⟩
      obtain ⟨K1, n1⟩ := kp g1
      show f_X5_countPlacesTo_L65 10000 (nI t) x2 (nI k) (nI (cP K)) z = _
      unfold f_X5_countPlacesTo_L65
      rw [K1.1, if_pos (by rw [nJ_le (by omega) (by omega)]; omega)]) 10000 0 s (by omega) (by omega) ⟨f1, u, hu, hI, fun p => Nat.le_refl _, fun o h => absurd h (Nat.not_lt_zero _)⟩
    exact ⟨s', u', q1, q2, q3, q4, q5, fun n hn hs => by
      obtain ⟨o, o1, o2, o3⟩ := hs
      exact q6 o o1 o2 n hn o3⟩
  -- one round
  have round : ∀ r x2 s u, Fr p319 σ s → (∀ p, p < cP K → s.1 319 p = nI (u p)) → ctI K H X t u → ctC K H X t r u → ∃ s' u', sg_lp (fun x : sgS × Int32 => f_X5_countPlacesTo_L51 10000 (nI t) x2 x.2 x.1) 10000 ((s, 0)) = some (.inr s') ∧ Fr p319 σ s' ∧ (∀ p, p < cP K → s'.1 319 p = nI (u' p)) ∧ ctI K H X t u' ∧ ctC K H X t (r + 1) u' := by
    intro r x2 s u f1 hu hI hC
    obtain ⟨s', q1, q2, u', q3, q4, q5, q6⟩ := lp_st (b := fun x : sgS × Int32 => f_X5_countPlacesTo_L51 10000 (nI t) x2 x.2 x.1) (n := cP K) (fun k z => Fr p319 σ z ∧ ∃ u', (∀ p, p < cP K → z.1 319 p = nI (u' p)) ∧ ctI K H X t u' ∧ (∀ p, u' p ≤ u p) ∧ ∀ p, p < k → ∀ n, n ≤ r → hsL K H X t (n + 1) p → u' p ≤ n + 1) (by
      rintro k z hk ⟨g1, u', g2, g3, g4, g5⟩
      obtain ⟨K1, n1⟩ := kp g1
      obtain ⟨z', u2, w1, w2, w3, w4, w5, w6⟩ := inner r x2 k z u' hk g1 g2 g3 (fun n hn p hp hs => Nat.le_trans (g4 p) (hC n hn p hp hs))
      refine ⟨z', ?_, w2, u2, w3, w4, fun p => Nat.le_trans (w5 p) (g4 p), fun p hp n hn hs => ?_⟩
      · show f_X5_countPlacesTo_L51 10000 (nI t) x2 (nI k) z = _
        unfold f_X5_countPlacesTo_L51
        rw [K1.1, if_neg (by rw [nJ_le (by omega) (by omega)]; omega), w1, lb_inr, nJ_addL]
      · by_cases c : p = k
        · subst c; exact w6 n hn hs
        · exact Nat.le_trans (w5 p) (g5 p (by omega) n hn hs)) (by
      rintro z ⟨g1, -⟩
      obtain ⟨K1, n1⟩ := kp g1
      show f_X5_countPlacesTo_L51 10000 (nI t) x2 (nI (cP K)) z = _
      unfold f_X5_countPlacesTo_L51
      rw [K1.1, if_pos (by rw [nJ_le (by omega) (by omega)]; omega)]) 10000 0 s (by omega) (by omega) ⟨f1, u, hu, hI, fun p => Nat.le_refl _, fun p h => absurd h (Nat.not_lt_zero _)⟩
    refine ⟨s', u', q1, q2, q3, q4, fun n hn p hp hs => ?_⟩
    match n, hn, hs with
    | 0, _, hs => exact Nat.le_trans (q5 p) (hC 0 (Nat.zero_le _) p hp hs)
    | n + 1, hn, hs => exact q6 p hp n (by omega) hs
  obtain ⟨σ2, e2, -, F2, u, U1, U2, U3⟩ := lp_st (b := fun x : sgS × Int32 => f_X5_countPlacesTo_L38 10000 (nI t) x.2 x.1) (n := cP K) (fun k z => 1 ≤ k ∧ Fr p319 σ z ∧ ∃ u, (∀ p, p < cP K → z.1 319 p = nI (u p)) ∧ ctI K H X t u ∧ ctC K H X t (k - 1) u) (by
    rintro k z hk ⟨g0, g1, u, g2, g3, g4⟩
    obtain ⟨K1, n1⟩ := kp g1
    obtain ⟨z', u2, w1, w2, w3, w4, w5⟩ := round (k - 1) (nI k) z u g1 g2 g3 g4
    refine ⟨z', ?_, by omega, w2, u2, w3, w4, by rw [show k + 1 - 1 = k - 1 + 1 by omega]; exact w5⟩
    show f_X5_countPlacesTo_L38 10000 (nI t) (nI k) z = _
    unfold f_X5_countPlacesTo_L38
    rw [K1.1, if_neg (by rw [nJ_le (by omega) (by omega)]; omega), w1, lb_inr, nJ_addL]) (by
    rintro z ⟨g0, g1, -⟩
    obtain ⟨K1, n1⟩ := kp g1
    show f_X5_countPlacesTo_L38 10000 (nI t) (nI (cP K)) z = _
    unfold f_X5_countPlacesTo_L38
    rw [K1.1, if_pos (by rw [nJ_le (by omega) (by omega)]; omega)]) 10000 1 σ1 (by omega) (by omega) ⟨by decide, F1, fun p => if p = t then 0 else 7, A1, fun p hp => by
      show (if p = t then 0 else 7) ≤ 7 ∧ ((if p = t then 0 else 7) < 7 → hsL K H X t (if p = t then 0 else 7) p)
      by_cases c : p = t
      · rw [if_pos c]; exact ⟨by omega, fun _ => c⟩
      · rw [if_neg c]; exact ⟨by omega, fun h => by omega⟩, fun n hn p hp hs => by
      have : n = 0 := by omega
      subst this
      have hs : p = t := hs
      show (if p = t then 0 else 7) ≤ 0
      rw [if_pos hs]; omega⟩
  refine ⟨σ2, u, ?_, U1, U2, U3, F2⟩
  unfold f_X5_countPlacesTo
  have e1 : sg_lp (fun x : sgS × Int32 => f_X5_countPlacesTo_L2 10000 (nI t) x.2 x.1) 10000 ((σ, 0)) = _ := e1
  have e2 : sg_lp (fun x : sgS × Int32 => f_X5_countPlacesTo_L38 10000 (nI t) x.2 x.1) 10000 ((σ1, 1)) = _ := e2
  rw [e1, lb_inr, e2, lb_inr]
theorem nextOn_ok {K : Cty} {H : Nat → Nat} {X t p e z : Nat} {v : Nat → Nat} {σ : sgS} (okk : okK K) (oH : okH K H) (hK : CK K σ) (n : netC K H X σ) (ht : t < cP K) (hp : p < cP K) (hu : ∀ p, p < cP K → σ.1 319 p = nI (v p) ∧ v p ≤ 7) (hve : v p = e + 1) (z1 : z < cP K) (z2 : ldB K H X t p z = true) (z3 : v z = e) (z4 : ∀ o, o < z → ¬ (ldB K H X t p o = true ∧ v o = e)) : f_X5_nextOnRow 10000 (nI p) (nI t) σ = some (nI z) := by
  have hp7 := okk.1
  have st : ∀ o, o < cP K → f_X5_nextOnRow_L2 10000 (nI p) (nI t) (nI o) σ = if ldB K H X t p o = true ∧ v o = e then some (.inl (nI o)) else some (.inr (.inl (nI (o + 1)))) := by
    intro o ho
    have h1 := hu o ho
    have h2 := hu p hp
    unfold f_X5_nextOnRow_L2
    rw [hK.1, if_neg (by rw [nJ_le (by omega) (by omega)]; omega), leadsOn_ok okk oH n ht hp ho, cr_some, nJ_addL]
    cases hl : ldB K H X t p o with
    | false => rw [show (if false = true then (1 : Int32) else 0) = 0 from rfl, if_pos rfl, if_neg (show ¬ (false = true ∧ v o = e) from fun h => by cases h.1)]
    | true =>
      rw [show (if true = true then (1 : Int32) else 0) = 1 from rfl, if_neg nn10, ld_ok (by omega) (by decide), h1.1, ld_ok (by omega) (by decide), h2.1, nJ_addL, hve]
      by_cases c : v o = e
      · rw [if_pos (by rw [c]), if_pos ⟨rfl, c⟩]
      · rw [if_neg (by rw [nJ_eq (by omega) (by omega)]; omega), if_neg (fun h => c h.2)]
  obtain ⟨x, hx, en⟩ := lp_go (b := fun x => f_X5_nextOnRow_L2 10000 (nI p) (nI t) x σ) (n := z) (fun k x => x = nI k) (by
    rintro k x hk rfl
    refine ⟨nI (k + 1), ?_, rfl⟩
    show f_X5_nextOnRow_L2 10000 (nI p) (nI t) (nI k) σ = _
    rw [st k (by omega), if_neg (z4 k hk)]) z 0 10000 0 (by omega) (by omega) rfl
  subst hx
  unfold f_X5_nextOnRow
  rw [en, show 10000 - z = (10000 - z - 1) + 1 by omega, lp_ret (r := nI z) (by show f_X5_nextOnRow_L2 10000 (nI p) (nI t) (nI z) σ = _; rw [st z z1, if_pos ⟨z2, z3⟩]), lb_inl]
theorem rowLp_ok {K : Cty} {H : Nat → Nat} {X t : Nat} {v : Nat → Nat} {σ : sgS} {x1 : Int32} (okk : okK K) (oH : okH K H) (hK : CK K σ) (nn : netC K H X σ) (ht : t < cP K) (hu : ∀ p, p < cP K → σ.1 319 p = nI (v p) ∧ v p ≤ 7) : ∀ n p r R i N, p < cP K → v p = n → isR K H X t v n p r R → i + n < cP K → n < N → sg_lp (fun x : Int32 × Int32 × Int32 => f_X5_shortestRow_L13 10000 x1 (nI t) x.1 x.2.1 x.2.2 σ) N ((nI r, nI p, nI i)) = some (.inr (nI R)) := by
  have hp7 := okk.1
  intro n
  induction n with
  | zero =>
    rintro p r R i N hp - ⟨rfl, rfl⟩ hi hN
    obtain ⟨N, rfl⟩ : ∃ q, N = q + 1 := ⟨N - 1, by omega⟩
    rw [lp_out (y := nI R)]
    show f_X5_shortestRow_L13 10000 x1 (nI p) (nI R) (nI p) (nI i) σ = _
    unfold f_X5_shortestRow_L13
    rw [hK.1, if_neg (by rw [nJ_le (by omega) (by omega)]; omega), if_pos rfl]
  | succ n ih =>
    rintro p r R i N hp hve ⟨z, z1, z2, z3, z4, z5⟩ hi hN
    obtain ⟨N, rfl⟩ : ∃ q, N = q + 1 := ⟨N - 1, by omega⟩
    have hne : p ≠ t := by
      rintro rfl
      have := ld_lt K H X p oH z2
      rw [fwW_ii] at this
      omega
    have nx := nextOn_ok okk oH hK nn ht hp hu hve z1 z2 z3 z4
    rw [lp_step (x' := (nI (10 * r + z), nI z, nI (i + 1)))]
    · exact ih z (10 * r + z) R (i + 1) N z1 z3 z5 (by omega) (by omega)
    · show f_X5_shortestRow_L13 10000 x1 (nI t) (nI r) (nI p) (nI i) σ = _
      unfold f_X5_shortestRow_L13
      rw [hK.1, if_neg (by rw [nJ_le (by omega) (by omega)]; omega), if_neg (by rw [nJ_eq (by omega) (by omega)]; exact hne), nx, cr_some, nJ_mulL, nJ_add, nJ_addL, Nat.mul_comm r 10]
theorem lw_O21_ok : lw_O21 Rel := by
  intro a1 a2
  refine q_eq (fun A σ τ ok C M => ⟨10000, 10000, ?_⟩)
  have hp7 : cP (aK A) ≤ 7 := ok.2.1.1
  have eC := C.2.1
  have eM := M.2.1
  unfold f_X11_row f_X12_row f_X12_far
  rcases nJ_rng a1 (cP (aK A)) (by omega) with ⟨p, hp1, rfl⟩ | h
  · rcases nJ_rng a2 (cP (aK A)) (by omega) with ⟨q, hq1, rfl⟩ | h
    · obtain ⟨H, σ1, τ1, e1, e2, ⟨oH, k1, k2, k3, k4, k5, k6⟩, f1, f2⟩ := net2 ok C M (by omega)
      have hb := fwW_bd (X := sX (aS A)) (i := p) (j := q) ok.2.1 oH
      rw [hasPlaces_y eC.1 hp1 hq1 (by omega), isPlace_y eM.1 hp1 (by omega), isPlace_y eM.1 hq1 (by omega), e1, e2, cr_some, cr_some, cr_some, cl_some, cl_some, if_neg nn10, if_neg nn10, if_neg nn10, reaches_ok ok.2.1 k3 hp1 hq1, awayOf_ok k6 (by omega) (by omega), cr_some, cr_some, cr_some]
      by_cases c : fwW (aK A) H (sX (aS A)) p q < 100000
      · rw [if_pos c, if_neg nn10, if_pos (by rw [nJ_ltL (by omega) (by decide)]; exact c), cl_some, if_neg (by rw [nJ_ne_neg (by omega)]; exact id), pf_eq]
        obtain ⟨σ2, u, g1, g2, g3, g4, g5⟩ := countTo_ok ok.2.1 oH k1 k3 hq1
        have hv : isV (aK A) H (sX (aS A)) q u := by
          intro x hx hW
          obtain ⟨m, hm⟩ := hsL_ex (aK A) H (sX (aS A)) q oH ok.2.1 _ x hx (Nat.le_refl _) hW
          have hle := hsL_le (aK A) H (sX (aS A)) q oH ok.2.1 hq1 hx hm
          have h1 := g4 m (by omega) x hx hm
          exact ⟨(g3 x hx).2 (by omega), fun m' hm' => g4 m' (by have := hsL_le (aK A) H (sX (aS A)) q oH ok.2.1 hq1 hx hm'; omega) x hx hm'⟩
        obtain ⟨R, hR⟩ := isR_ex (aK A) H (sX (aS A)) q u oH ok.2.1 hq1 hv (u p) p p hp1 c rfl
        have hle := hsL_le (aK A) H (sX (aS A)) q oH ok.2.1 hq1 hp1 (hv p hp1 c).1
        have K2 : CK (aK A) σ2 := CK_fr k1 (fun j a b => funext fun z => g5 j z (by unfold p319; omega))
        have n2 : netC (aK A) H (sX (aS A)) σ2 := by
          obtain ⟨h1, h2, h3⟩ := k3
          refine ⟨fun a b ha hb => ?_, ?_, fun r hr => ?_⟩
          · rw [g5 (304 + a) b (by unfold p319; omega), g5 (312 + a) b (by unfold p319; omega)]; exact h1 a b ha hb
          · rw [g5 302 5 (by unfold p319; omega)]; exact h2
          · rw [g5 51 r (by unfold p319; omega)]; exact h3 r hr
        have lC := rowLp_ok (x1 := nI p) ok.2.1 oH K2 n2 hq1 (fun x hx => ⟨g2 x hx, (g3 x hx).1⟩) (u p) p p R 0 10000 hp1 rfl hR (by omega) (by omega)
        have lC : sg_lp (fun x : Int32 × Int32 × Int32 => f_X5_shortestRow_L13 10000 (nI p) (nI q) x.1 x.2.1 x.2.2 σ2) 10000 ((nI p, nI p, 0)) = _ := lC
        have fr4 : Fr p0b τ1 (sg_up τ1 0 46 (-1)) := Fr.up ⟨rfl, Or.inl rfl⟩
        have K4 : MK (aK A) (sg_up τ1 0 46 (-1)) := MK_fr k4 (fun j a b => by rw [up_ne (by omega)]) (fun z a b => by rw [up_nk (by omega)])
        obtain ⟨τ2, j1, j2, j3, j4⟩ := tryRow_ok ok.2.1 oH hq1 hv 7 40 p p 1 R none (sg_up τ1 0 46 (-1)) (by decide) (fun z hz => by have := hsL_le (aK A) H (sX (aS A)) q oH ok.2.1 hq1 hp1 hz; omega) (by decide) hp1 c (by omega) hR K4 (netM_fr k6 fr4) (show rsM none _ from up_at) (fun z hz => by cases hz)
        have j2 : τ2.1 0 46 = nI R ∧ τ2.1 0 48 = nI (1 + u p) := j2
        unfold f_X5_shortestRow
        rw [g1, cl_some, lC, lb_inr, cl_some, show f_X12_tryRow 40 10000 (nI p) (nI q) (nI p) 1 _ = _ from j1, cl_some, j2.1]
        exact ⟨_, _, _, rfl, rfl, f1.tr (g5.mono (fun j k h => by unfold p319 at h; unfold scC; omega)), f2.tr ((fr4.tr j4).mono (fun j k h => by unfold p0b at h; unfold scM; omega))⟩
      · rw [if_neg c, if_pos rfl, if_neg (by rw [nJ_ltL (by omega) (by decide)]; exact c), cl_some, if_pos rfl]
        exact ⟨_, _, _, rfl, rfl, f1, f2⟩
    · rw [hasPlaces_n2 eC.1 hp1 (by omega) h, isPlace_y eM.1 hp1 (by omega), isPlace_n eM.1 h (by omega)]
      exact ⟨_, _, _, rfl, rfl, Fr.rf, Fr.rf⟩
  · rw [hasPlaces_n1 eC.1 h, isPlace_n eM.1 h (by omega)]
    exact ⟨_, _, _, rfl, rfl, Fr.rf, Fr.rf⟩
