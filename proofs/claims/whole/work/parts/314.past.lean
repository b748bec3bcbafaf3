/-! copying -/
theorem cpy_0 {τ : sgS} {c so d : Nat} {f : Nat → Int32} : sg_row τ c (va_cpy f (τ.1 c) so d 0) = τ := by
  refine Prod.ext (funext fun j => funext fun q => ?_) rfl
  rw [row_get, cpy_get]
  by_cases h : j = c
  · rw [if_pos h, if_neg (by omega), h]
  · rw [if_neg h]
theorem cpy_s {τ : sgS} {c so d k : Nat} {f g : Nat → Int32} : sg_up (sg_row τ c (va_cpy f g so d k)) c (d + k) (f (so + k)) = sg_row τ c (va_cpy f g so d (k + 1)) := by
  refine Prod.ext (funext fun j => funext fun q => ?_) rfl
  rw [up_get, row_get, row_get, cpy_get, cpy_get]
  by_cases h : j = c
  · by_cases hq : q = d + k
    · rw [if_pos ⟨h, hq⟩, if_pos h, if_pos (by omega), hq, Nat.add_sub_cancel_left]
    · rw [if_neg (by rintro ⟨-, h2⟩; exact hq h2), if_pos h, if_pos h]
      by_cases h3 : d ≤ q ∧ q < d + k
      · rw [if_pos h3, if_pos (by omega)]
      · rw [if_neg h3, if_neg (by omega)]
  · rw [if_neg (by rintro ⟨h2, -⟩; exact h h2), if_neg h, if_neg h]
def pb (a b j _k : Nat) : Prop := a ≤ j ∧ j ≤ b
theorem copyFrom_ok {N o q : Nat} {K : Cty} {S : Sta} {σ : sgS} (ok : okK K) (hd : o + 5 < q ∨ q + 5 < o) (h : CS K S q σ) : ∃ σ', f_X8_copyFrom N o q σ = some (0, σ') ∧ CS K S o σ' ∧ Fr (pb o (o + 5)) σ σ' := by
  obtain ⟨hp, hr, hs, -⟩ := ok
  obtain ⟨h1, h2, h3, h4, h5, h6, h7, h8⟩ := h
  have e0 : (0 : Int32) = nI 0 := rfl
  have e4 : (4 : Int32) = nI 4 := rfl
  have e7 : (7 : Int32) = nI 7 := rfl
  have e12 : (12 : Int32) = nI 12 := rfl
  refine ⟨_, by
    unfold f_X8_copyFrom
    rw [e0, e4, e7, e12, cp_ok (by decide) (by decide) (by decide) (by decide), cp_ok (by decide) (by decide) (by decide) (by decide), cp_ok (by decide) (by decide) (by decide) (by decide), cp_ok (by decide) (by decide) (by decide) (by decide), cp_ok (by decide) (by decide) (by decide) (by decide)]
    simp only [sg_pf]
    rfl, ⟨fun w hw => ?_, fun w hw => ?_, fun w hw => ?_, fun w hw => ?_, fun w hw => ?_, ?_, ?_, ?_⟩, fun j k hj => ?_⟩
  · simp (disch := omega) only [sg_row_nt, up_ne, sg_row_at, up_at, up_nk]
    rw [← h1 w hw, cpy_get, if_pos (by omega), Nat.zero_add, Nat.sub_zero]
  · simp (disch := omega) only [sg_row_nt, up_ne, sg_row_at, up_at, up_nk]
    rw [← h2 w hw, cpy_get, if_pos (by omega), Nat.zero_add, Nat.sub_zero]
  · simp (disch := omega) only [sg_row_nt, up_ne, sg_row_at, up_at, up_nk]
    rw [← h3 w hw, cpy_get, if_pos (by omega), Nat.zero_add, Nat.sub_zero]
  · simp (disch := omega) only [sg_row_nt, up_ne, sg_row_at, up_at, up_nk]
    rw [← h4 w hw, cpy_get, if_pos (by omega), Nat.zero_add, Nat.sub_zero]
  · simp (disch := omega) only [sg_row_nt, up_ne, sg_row_at, up_at, up_nk]
    rw [← h5 w hw, cpy_get, if_pos (by omega), Nat.zero_add, Nat.sub_zero]
  · simp (disch := omega) only [sg_row_nt, up_ne, sg_row_at, up_at, up_nk]
    exact h6
  · simp (disch := omega) only [sg_row_nt, up_ne, sg_row_at, up_at, up_nk]
    exact h7
  · simp (disch := omega) only [sg_row_nt, up_ne, sg_row_at, up_at, up_nk]
    exact h8
  · unfold pb at hj
    by_cases h0 : j = o
    · omega
    · rw [up_ne (by omega), up_ne (by omega), up_ne (by omega), sg_row_nt (by omega), sg_row_nt (by omega), sg_row_nt (by omega), sg_row_nt (by omega), sg_row_nt (by omega)]
/-! remembering -/
def kN (A : Abs) : Nat := min 40 (aN A + 1)
def kH (A : Abs) : Nat → Sta := fun a => if aN A < 40 then (if a < aN A then aH A a else aS A) else (if a < 39 then aH A (a + 1) else aS A)
def uP (A : Abs) (x : Nat × (Nat → Sta) × Nat) : Abs := (A.1, A.2.1, A.2.2.1, A.2.2.2.1, A.2.2.2.2.1, x, A.2.2.2.2.2.2)
def uS (A : Abs) (x : Sta × (Nat → Nat → Int32)) : Abs := (A.1, A.2.1, A.2.2.1, A.2.2.2.1, x, A.2.2.2.2.2)
def kP (A : Abs) : Abs := uP A (kN A, kH A, aO A)
theorem kH_ok {A : Abs} (ok : okA A) (h0 : cP (aK A) ≠ 0) : ∀ a, a < kN A → okS (aK A) (aY A) (kH A a) := by
  intro a ha
  have o1 := ok.2.2.2.2.2.1 h0
  have o2 := ok.2.2.2.2.2.2.1.2.1
  unfold kN at ha
  unfold kH
  by_cases c : aN A < 40
  · rw [if_pos c]
    by_cases c2 : a < aN A
    · rw [if_pos c2]; exact o2 a c2
    · rw [if_neg c2]; exact o1
  · rw [if_neg c]
    by_cases c2 : a < 39
    · rw [if_pos c2]; exact o2 (a + 1) (by have := ok.2.2.2.2.2.2.1.1; omega)
    · rw [if_neg c2]; exact o1
theorem kH_day {A : Abs} (h40 : aN A ≤ 40) : ∀ a, a ≤ kN A → aD (kP A) a = aD A (if aN A < 40 then (if a < aN A + 1 then a else aN A) else min 40 (a + 1)) := by
  intro a ha
  unfold kN at ha
  show (if a < kN A then sD (kH A a) else sD (aS A)) = _
  unfold aD kN kH
  by_cases c : aN A < 40
  · rw [if_pos c, if_pos c]
    by_cases c1 : a < aN A
    · rw [show (if a < aN A + 1 then a else aN A) = a from if_pos (by omega), if_pos c1, if_pos c1, if_pos (by omega)]
    · by_cases c2 : a < aN A + 1
      · rw [show (if a < aN A + 1 then a else aN A) = a from if_pos c2, if_neg c1, if_neg c1, if_pos (by omega)]
      · rw [show (if a < aN A + 1 then a else aN A) = aN A from if_neg c2, if_neg c1, if_neg (by omega), if_neg (by omega)]
  · rw [if_neg c, if_neg c]
    by_cases c1 : a < 39
    · rw [show min 40 (a + 1) = a + 1 by omega, if_pos c1, if_pos (by omega), if_pos (by omega)]
    · by_cases c2 : a < 40
      · rw [show min 40 (a + 1) = 40 by omega, if_neg c1, if_pos (by omega), if_neg (by omega)]
      · rw [show min 40 (a + 1) = 40 by omega, if_neg c1, if_neg (by omega), if_neg (by omega)]
theorem kP_ok {A : Abs} (ok : okA A) (h0 : cP (aK A) ≠ 0) : okA (kP A) := by
  have o := ok.2.2.2.2.2.2.1
  have h40 := o.1
  refine ⟨ok.1, ok.2.1, ok.2.2.1, ok.2.2.2.1, fun h => absurd h h0, ok.2.2.2.2.2.1, ⟨by show kN A ≤ 40; unfold kN; omega, kH_ok ok h0, fun a ha => ?_, fun a ha => ?_⟩, ok.2.2.2.2.2.2.2⟩
  · have ha : a < kN A := ha
    have hk : kN A = min 40 (aN A + 1) := rfl
    rw [kH_day h40 a (by omega), kH_day h40 (a + 1) (by omega)]
    by_cases c : aN A < 40
    · rw [if_pos c, if_pos c]
      by_cases c1 : a < aN A
      · rw [if_pos (by omega), if_pos (by omega)]
        exact o.2.2.1 a c1
      · rw [if_pos (by omega), if_neg (by omega), show a = aN A by omega]
        exact ⟨Nat.le_refl _, Nat.le_succ _⟩
    · rw [if_neg c, if_neg c]
      by_cases c1 : a < 39
      · rw [show min 40 (a + 1) = a + 1 by omega, show min 40 (a + 1 + 1) = a + 1 + 1 by omega]
        exact o.2.2.1 (a + 1) (by omega)
      · rw [show min 40 (a + 1) = 40 by omega, show min 40 (a + 1 + 1) = 40 by omega]
        exact ⟨Nat.le_refl _, Nat.le_succ _⟩
  · have ha : a ≤ kN A := ha
    rw [kH_day h40 a ha]
    unfold kN at ha
    refine o.2.2.2 _ ?_
    by_cases c : aN A < 40
    · rw [if_pos c]
      by_cases c1 : a < aN A + 1
      · rw [if_pos c1]; omega
      · rw [if_neg c1]; exact Nat.le_refl _
    · rw [if_neg c]; omega
