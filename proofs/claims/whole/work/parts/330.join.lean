/-! WHAT A LAW IS WORTH. One sign -/
def lwJ (c : Int32) (a b : Int32) : Int32 := if c = 2 then (max (-1000000) (min 1000000 (a.toInt + b.toInt))).toInt32 else if c = 3 then (max (-1000000) (min 1000000 (a.toInt - b.toInt))).toInt32 else if c = 4 then (max (-1000000) (min 1000000 (a.toInt * b.toInt))).toInt32 else if c = 5 then (if b = 0 then 0 else a / b) else if c = 6 then (if a = b then 1 else 0) else if c = 7 then (if a < b then 1 else 0) else if c = 8 then (if b < a then 1 else 0) else if c = 10 then a &&& b else a ||| b
def okv (b : Bool) (v : Int32) : Prop := if b then v = 0 ∨ v = 1 else -1000000 ≤ v.toInt ∧ v.toInt ≤ 1000000
theorem x32 {x : Int64} : x.toInt32 = x.toInt.toInt32 := by rw [← Int32.toInt_inj, Int64.toInt_toInt32]; exact (Int32.toInt_ofInt (n := x.toInt)).symm
theorem hold_ok {N : Nat} {x : Int64} {σ : sgS} : f_X4_hold N x σ = some (max (-1000000) (min 1000000 x.toInt)).toInt32 := by
  unfold f_X4_hold
  have e1 : (lg_cmp x 1000000 ≤ 0) = (x.toInt ≤ 1000000) := by
    rw [lg_cmp_le, Int64.le_iff_toInt_le, show (1000000 : Int64).toInt = 1000000 from by decide]
  have e2 : (0 ≤ lg_cmp x (-1000000)) = (-1000000 ≤ x.toInt) := by
    rw [lg_cmp_ge, Int64.le_iff_toInt_le, show (-1000000 : Int64).toInt = -1000000 from by decide]
  simp only [e1, e2]
  by_cases h1 : x.toInt ≤ 1000000
  · rw [if_pos h1]
    by_cases h2 : -1000000 ≤ x.toInt
    · rw [if_pos h2, show max (-1000000) (min 1000000 x.toInt) = x.toInt by omega]
      rw [x32]
    · rw [if_neg h2, show max (-1000000) (min 1000000 x.toInt) = -1000000 by omega]; rfl
  · rw [if_neg h1, show max (-1000000) (min 1000000 x.toInt) = 1000000 by omega]; rfl
theorem bounded_ok {N : Nat} {x : Int64} {τ : sgS} : f_X12_bounded N x τ = some (max (-1000000) (min 1000000 x.toInt)).toInt32 := by
  unfold f_X12_bounded
  have e1 : (x < 1000000) = (x.toInt < 1000000) := by
    rw [Int64.lt_iff_toInt_lt, show (1000000 : Int64).toInt = 1000000 from by decide]
  congr 1
  by_cases h1 : x.toInt < 1000000
  · have hx : x < 1000000 := Eq.mpr e1 h1
    rw [if_pos hx]
    by_cases h2 : x.toInt < -1000000
    · have hy : x < -1000000 := by rw [Int64.lt_iff_toInt_lt, show (-1000000 : Int64).toInt = -1000000 from by decide]; exact h2
      rw [if_pos hy, show max (-1000000) (min 1000000 x.toInt) = -1000000 by omega]; rfl
    · have hy : ¬ x < -1000000 := by rw [Int64.lt_iff_toInt_lt, show (-1000000 : Int64).toInt = -1000000 from by decide]; exact h2
      rw [if_neg hy, show max (-1000000) (min 1000000 x.toInt) = x.toInt by omega, x32]
  · have hx : ¬ x < 1000000 := fun z => h1 (Eq.mp e1 z)
    rw [if_neg hx, show max (-1000000) (min 1000000 x.toInt) = 1000000 by omega]; rfl
theorem to64_add {a b : Int32} (h : okv false a ∧ okv false b) : (a.toInt64 + b.toInt64).toInt = a.toInt + b.toInt := by
  obtain ⟨h1, h2⟩ := h
  simp only [okv, Bool.false_eq_true, ↓reduceIte] at h1 h2
  rw [Int64.toInt_add, Int32.toInt_toInt64, Int32.toInt_toInt64]
  exact Int.bmod_eq_of_le (by omega) (by omega)
theorem to64_sub {a b : Int32} (h : okv false a ∧ okv false b) : (a.toInt64 - b.toInt64).toInt = a.toInt - b.toInt := by
  obtain ⟨h1, h2⟩ := h
  simp only [okv, Bool.false_eq_true, ↓reduceIte] at h1 h2
  rw [Int64.toInt_sub, Int32.toInt_toInt64, Int32.toInt_toInt64]
  exact Int.bmod_eq_of_le (by omega) (by omega)
theorem mul_bd {x y : Int} (h1 : -1000000 ≤ x ∧ x ≤ 1000000) (h2 : -1000000 ≤ y ∧ y ≤ 1000000) : -1000000000000 ≤ x * y ∧ x * y ≤ 1000000000000 := by
  have h3 : x.natAbs ≤ 1000000 := by omega
  have h4 : y.natAbs ≤ 1000000 := by omega
  have h5 : (x * y).natAbs ≤ 1000000 * 1000000 := by rw [Int.natAbs_mul]; exact Nat.mul_le_mul h3 h4
  omega
theorem to64_mul {a b : Int32} (h : okv false a ∧ okv false b) : (a.toInt64 * b.toInt64).toInt = a.toInt * b.toInt := by
  obtain ⟨h1, h2⟩ := h
  simp only [okv, Bool.false_eq_true, ↓reduceIte] at h1 h2
  have := mul_bd h1 h2
  rw [Int64.toInt_mul, Int32.toInt_toInt64, Int32.toInt_toInt64]
  exact Int.bmod_eq_of_le (by omega) (by omega)
theorem div_bd {x y : Int} (h1 : -1000000 ≤ x ∧ x ≤ 1000000) : -1000000 ≤ Int.tdiv x y ∧ Int.tdiv x y ≤ 1000000 := by
  have h3 : (Int.tdiv x y).natAbs ≤ x.natAbs := by
    rw [Int.natAbs_tdiv]; exact Nat.div_le_self _ _
  omega
theorem to32_div {a b : Int32} (h : okv false a) : (a / b).toInt = Int.tdiv a.toInt b.toInt := by
  simp only [okv, Bool.false_eq_true, ↓reduceIte] at h
  have := div_bd (y := b.toInt) h
  rw [Int32.toInt_div]
  exact Int.bmod_eq_of_le (by omega) (by omega)
theorem to64_div {a b : Int32} (h : okv false a) : (a.toInt64 / b.toInt64).toInt = Int.tdiv a.toInt b.toInt := by
  simp only [okv, Bool.false_eq_true, ↓reduceIte] at h
  have := div_bd (y := b.toInt) h
  rw [Int64.toInt_div, Int32.toInt_toInt64, Int32.toInt_toInt64]
  exact Int.bmod_eq_of_le (by omega) (by omega)
theorem clamp_id {x : Int} (h : -1000000 ≤ x ∧ x ≤ 1000000) : (max (-1000000) (min 1000000 x)) = x := by omega
theorem i32_of {x : Int} (h : -1000000 ≤ x ∧ x ≤ 1000000) : x.toInt32.toInt = x := Int32.toInt_ofInt_of_le (by omega) (by omega)
theorem clamp_ok {x : Int} : okv false (max (-1000000) (min 1000000 x)).toInt32 := by
  simp only [okv, Bool.false_eq_true, ↓reduceIte]
  rw [i32_of (by omega)]
  omega
theorem to64_eq {a b : Int32} : (lg_cmp a.toInt64 b.toInt64 = 0) = (a = b) := by
  rw [lg_cmp_eq, ← Int64.toInt_inj, Int32.toInt_toInt64, Int32.toInt_toInt64, Int32.toInt_inj]
theorem to64_0 {b : Int32} : (lg_cmp b.toInt64 0 = 0) = (b = 0) := by
  rw [lg_cmp_eq, ← Int64.toInt_inj, Int32.toInt_toInt64, ← Int32.toInt_inj]; rfl
theorem to64_ge {a b : Int32} : (0 ≤ lg_cmp a.toInt64 b.toInt64) = (b ≤ a) := by
  rw [lg_cmp_ge, Int64.le_iff_toInt_le, Int32.toInt_toInt64, Int32.toInt_toInt64, Int32.le_iff_toInt_le]
theorem to64_le {a b : Int32} : (lg_cmp a.toInt64 b.toInt64 ≤ 0) = (a ≤ b) := by
  rw [lg_cmp_le, Int64.le_iff_toInt_le, Int32.toInt_toInt64, Int32.toInt_toInt64, Int32.le_iff_toInt_le]
theorem not_le32 {a b : Int32} : (¬ a ≤ b) = (b < a) := by rw [Int32.le_iff_toInt_le, Int32.lt_iff_toInt_lt, Int.not_le]
/-- the kinds of what a sign joins, and of what comes -/
def lwK (c : Nat) : Bool := decide (10 ≤ c)
def lwR (c : Nat) : Bool := decide (6 ≤ c)
theorem join_ok {N c : Nat} {a b : Int32} {σ : sgS} (h2 : 2 ≤ c) (h11 : c ≤ 11) (h9 : c ≠ 9) (h : okv (lwK c) a ∧ okv (lwK c) b) : f_X4_join N (lwE (nI c, 0) - 20000) a b σ = some (lwJ (nI c) a b) := by
  have hc : c = 2 ∨ c = 3 ∨ c = 4 ∨ c = 5 ∨ c = 6 ∨ c = 7 ∨ c = 8 ∨ c = 10 ∨ c = 11 := by omega
  rcases hc with rfl | rfl | rfl | rfl | rfl | rfl | rfl | rfl | rfl
  · show f_X4_join N 43 a b σ = some (max (-1000000) (min 1000000 (a.toInt + b.toInt))).toInt32
    rw [← to64_add h]
    exact (show f_X4_join N 43 a b σ = (sg_cr (f_X4_hold N (a.toInt64 + b.toInt64) σ) fun v2 => some v2) from rfl).trans (by rw [hold_ok]; rfl)
  · show f_X4_join N 45 a b σ = some (max (-1000000) (min 1000000 (a.toInt - b.toInt))).toInt32
    rw [← to64_sub h]
    exact (show f_X4_join N 45 a b σ = (sg_cr (f_X4_hold N (a.toInt64 - b.toInt64) σ) fun v2 => some v2) from rfl).trans (by rw [hold_ok]; rfl)
  · show f_X4_join N 42 a b σ = some (max (-1000000) (min 1000000 (a.toInt * b.toInt))).toInt32
    rw [← to64_mul h]
    exact (show f_X4_join N 42 a b σ = (sg_cr (f_X4_hold N (a.toInt64 * b.toInt64) σ) fun v2 => some v2) from rfl).trans (by rw [hold_ok]; rfl)
  · show (if b = 0 then some 0 else sg_nz b (some (a / b))) = some (if b = 0 then 0 else a / b)
    by_cases hb : b = 0
    · rw [if_pos hb, if_pos hb]
    · rw [if_neg hb, if_neg hb, sg_nz, if_neg hb]
  · show (if a = b then some 1 else some 0) = some (if a = b then 1 else 0)
    by_cases hb : a = b
    · rw [if_pos hb, if_pos hb]
    · rw [if_neg hb, if_neg hb]
  · show (if b ≤ a then some 0 else some 1) = some (if a < b then 1 else 0)
    by_cases hb : b ≤ a
    · rw [if_pos hb, if_neg (by rw [← not_le32]; exact fun z => z hb)]
    · rw [if_neg hb, if_pos (by rw [← not_le32]; exact hb)]
  · show (if a ≤ b then some 0 else some 1) = some (if b < a then 1 else 0)
    by_cases hb : a ≤ b
    · rw [if_pos hb, if_neg (by rw [← not_le32]; exact fun z => z hb)]
    · rw [if_neg hb, if_pos (by rw [← not_le32]; exact hb)]
  · rfl
  · rfl
theorem worked_ok {N c : Nat} {a b : Int32} {τ : sgS} (h2 : 2 ≤ c) (h11 : c ≤ 11) (h9 : c ≠ 9) (h : okv (lwK c) a ∧ okv (lwK c) b) : f_X12_worked N (nI c) a.toInt64 b.toInt64 τ = some (lwJ (nI c) a b) := by
  have hc : c = 2 ∨ c = 3 ∨ c = 4 ∨ c = 5 ∨ c = 6 ∨ c = 7 ∨ c = 8 ∨ c = 10 ∨ c = 11 := by omega
  rcases hc with rfl | rfl | rfl | rfl | rfl | rfl | rfl | rfl | rfl
  · show (sg_cr (f_X12_bounded N (a.toInt64 + b.toInt64) τ) fun v => some v) = some (max (-1000000) (min 1000000 (a.toInt + b.toInt))).toInt32
    rw [bounded_ok, to64_add h]; rfl
  · show (sg_cr (f_X12_bounded N (a.toInt64 - b.toInt64) τ) fun v => some v) = some (max (-1000000) (min 1000000 (a.toInt - b.toInt))).toInt32
    rw [bounded_ok, to64_sub h]; rfl
  · show (sg_cr (f_X12_bounded N (a.toInt64 * b.toInt64) τ) fun v => some v) = some (max (-1000000) (min 1000000 (a.toInt * b.toInt))).toInt32
    rw [bounded_ok, to64_mul h]; rfl
  · show (if lg_cmp b.toInt64 0 = 0 then some 0 else sg_nzl b.toInt64 (sg_cr (f_X12_bounded N (a.toInt64 / b.toInt64) τ) fun v => some v)) = some (if b = 0 then 0 else a / b)
    have e := @to64_0 b
    by_cases hb : b = 0
    · rw [if_pos (by rw [e]; exact hb), if_pos hb]
    · have h1 : okv false a := h.1
      have hd : -1000000 ≤ a.toInt ∧ a.toInt ≤ 1000000 := by simpa only [okv, Bool.false_eq_true, ↓reduceIte] using h1
      rw [if_neg (by rw [e]; exact hb), if_neg hb, sg_nzl, if_neg (by rw [← lg_cmp_eq, e]; exact hb), bounded_ok, to64_div h1, clamp_id (div_bd hd)]
      show some _ = some _
      congr 1
      rw [← Int32.toInt_inj, to32_div h1, i32_of (div_bd hd)]
  · show (if lg_cmp a.toInt64 b.toInt64 = 0 then some 1 else some 0) = some (if a = b then 1 else 0)
    have e := @to64_eq a b
    by_cases hb : a = b
    · rw [if_pos (by rw [e]; exact hb), if_pos hb]
    · rw [if_neg (by rw [e]; exact hb), if_neg hb]
  · show (if 0 ≤ lg_cmp a.toInt64 b.toInt64 then some 0 else some 1) = some (if a < b then 1 else 0)
    have e := @to64_ge a b
    by_cases hb : b ≤ a
    · rw [if_pos (by rw [e]; exact hb), if_neg (by rw [← not_le32]; exact fun z => z hb)]
    · rw [if_neg (by rw [e]; exact hb), if_pos (by rw [← not_le32]; exact hb)]
  · show (if lg_cmp a.toInt64 b.toInt64 ≤ 0 then some 0 else some 1) = some (if b < a then 1 else 0)
    have e := @to64_le a b
    by_cases hb : a ≤ b
    · rw [if_pos (by rw [e]; exact hb), if_neg (by rw [← not_le32]; exact fun z => z hb)]
    · rw [if_neg (by rw [e]; exact hb), if_pos (by rw [← not_le32]; exact hb)]
  · obtain ⟨ha, hb⟩ := h
    have ha : a = 0 ∨ a = 1 := ha
    have hb : b = 0 ∨ b = 1 := hb
    rcases ha with rfl | rfl <;> rcases hb with rfl | rfl <;> rfl
  · obtain ⟨ha, hb⟩ := h
    have ha : a = 0 ∨ a = 1 := ha
    have hb : b = 0 ∨ b = 1 := hb
    rcases ha with rfl | rfl <;> rcases hb with rfl | rfl <;> rfl
theorem lwJ_ok {c : Nat} {a b : Int32} (h2 : 2 ≤ c) (h11 : c ≤ 11) (h9 : c ≠ 9) (h : okv (lwK c) a ∧ okv (lwK c) b) : okv (lwR c) (lwJ (nI c) a b) := by
  have hc : c = 2 ∨ c = 3 ∨ c = 4 ∨ c = 5 ∨ c = 6 ∨ c = 7 ∨ c = 8 ∨ c = 10 ∨ c = 11 := by omega
  have one : ∀ P : Prop, ∀ _ : Decidable P, okv true (if P then (1 : Int32) else 0) := by
    intro P _
    by_cases hp : P
    · rw [if_pos hp]; exact Or.inr rfl
    · rw [if_neg hp]; exact Or.inl rfl
  rcases hc with rfl | rfl | rfl | rfl | rfl | rfl | rfl | rfl | rfl
  · exact clamp_ok
  · exact clamp_ok
  · exact clamp_ok
  · show okv false (if b = 0 then 0 else a / b)
    by_cases hb : b = 0
    · rw [if_pos hb]; exact ⟨by decide, by decide⟩
    · have h1 : okv false a := h.1
      have hd : -1000000 ≤ a.toInt ∧ a.toInt ≤ 1000000 := by simpa only [okv, Bool.false_eq_true, ↓reduceIte] using h1
      rw [if_neg hb]
      simp only [okv, Bool.false_eq_true, ↓reduceIte]
      rw [to32_div h1]
      exact div_bd hd
  · exact one _ _
  · exact one _ _
  · exact one _ _
  · obtain ⟨ha, hb⟩ := h
    have ha : a = 0 ∨ a = 1 := ha
    have hb : b = 0 ∨ b = 1 := hb
    rcases ha with rfl | rfl <;> rcases hb with rfl | rfl <;> first | exact Or.inl rfl | exact Or.inr rfl
  · obtain ⟨ha, hb⟩ := h
    have ha : a = 0 ∨ a = 1 := ha
    have hb : b = 0 ∨ b = 1 := hb
    rcases ha with rfl | rfl <;> rcases hb with rfl | rfl <;> first | exact Or.inl rfl | exact Or.inr rfl
