/-! TOUR: all orders, in turn -/
def fld {β : Type} (f : Nat → β → β) : Nat → β → β
  | 0, b => b
  | k + 1, b => f k (fld f k b)
def rmv (L o : Nat) : Nat := L &&& (L ^^^ 2 ^ o)
theorem rmv_bit {L o k : Nat} : (rmv L o).testBit k = (L.testBit k && !decide (o = k)) := by
  unfold rmv
  rw [Nat.testBit_and, Nat.testBit_xor, Nat.testBit_two_pow]
  cases L.testBit k <;> cases decide (o = k) <;> rfl
theorem rmv_cnt {L o : Nat} (h : L.testBit o = true) : ∀ n, (n ≤ o → cntB (rmv L o) n = cntB L n) ∧ (o < n → cntB (rmv L o) n + 1 = cntB L n) := by
  intro n
  induction n with
  | zero => exact ⟨fun _ => rfl, fun h => by omega⟩
  | succ n ih =>
    have e1 : cntB (rmv L o) (n + 1) = cntB (rmv L o) n + (if (rmv L o).testBit n = true then 1 else 0) := rfl
    have e2 : cntB L (n + 1) = cntB L n + (if L.testBit n = true then 1 else 0) := rfl
    rw [e1, e2, rmv_bit]
    by_cases c : o = n
    · subst c
      rw [decide_eq_true rfl, h]
      refine ⟨fun hh => by omega, fun _ => ?_⟩
      rw [ih.1 (Nat.le_refl _)]; rfl
    · rw [decide_eq_false c, Bool.not_false, Bool.and_true]
      refine ⟨fun hh => by rw [ih.1 (by omega)], fun hh => ?_⟩
      have := ih.2 (by omega)
      omega
theorem rmv_lt {L o n : Nat} (h : L < 2 ^ n) : rmv L o < 2 ^ n := Nat.lt_of_le_of_lt Nat.and_le_left h
theorem cntB_0 {L n : Nat} (hL : L < 2 ^ n) (h : cntB L n = 0) : L = 0 := by
  apply Classical.byContradiction
  intro hne
  obtain ⟨k, hk, h1, h2⟩ := sub_ne (R := 0) (n := n) (fun k h => by rw [Nat.zero_testBit] at h; cases h) hL hne
  have := cntB_lt (R := 0) (fun k h => by rw [Nat.zero_testBit] at h; cases h) h1 h2 n hk
  omega
theorem cntB_z : ∀ n, cntB 0 n = 0 := by
  intro n
  induction n with
  | zero => rfl
  | succ n ih =>
    show cntB 0 n + (if (0 : Nat).testBit n = true then 1 else 0) = 0
    rw [ih, Nat.zero_testBit]; rfl
/-- the best so far: hours, row -/
def lfC (b : Option (Nat × Nat)) (a r : Nat) : Option (Nat × Nat) := match b with
  | none => some (a, r)
  | some q => if a < q.1 then some (a, r) else some q
def lfM (b : Option (Nat × Nat)) (a r : Nat) : Option (Nat × Nat) := match b with
  | none => some (a, r)
  | some q => if a < q.1 ∨ (a = q.1 ∧ r < q.2) then some (a, r) else some q
def prn (b : Option (Nat × Nat)) (h : Nat) : Bool := match b with
  | none => false
  | some q => decide (q.1 < h)
section TOUR
variable (P : Nat) (w : Nat → Nat → Nat) (fr : Nat)
def tC : Nat → Nat → Nat → Nat → Nat → Option (Nat × Nat) → Option (Nat × Nat)
  | 0, _, _, _, _, b => b
  | n + 1, at', L, h, r, b => if L = 0 then lfC b (h + w at' fr) r else fld (fun o b => if L.testBit o = true ∧ w at' o < 100000 then tC n o (rmv L o) (h + w at' o) (10 * r + o) b else b) P b
def tM : Nat → Nat → Nat → Nat → Nat → Option (Nat × Nat) → Option (Nat × Nat)
  | 0, _, _, _, _, b => b
  | n + 1, at', L, h, r, b => if prn b h = true then b else if L = 0 then lfM b (h + w at' fr) r else fld (fun o b => if L.testBit o = true ∧ w at' o < 100000 then tM n o (rmv L o) (h + w at' o) (10 * r + o) b else b) P b
theorem tC_id {q : Nat × Nat} : ∀ n at' L h r, q.1 < h → tC P w fr n at' L h r (some q) = some q := by
  intro n
  induction n with
  | zero => intro at' L h r _; rfl
  | succ n ih =>
    intro at' L h r hh
    show (if L = 0 then lfC (some q) (h + w at' fr) r else fld (fun o b => if L.testBit o = true ∧ w at' o < 100000 then tC P w fr n o (rmv L o) (h + w at' o) (10 * r + o) b else b) P (some q)) = some q
    by_cases c : L = 0
    · rw [if_pos c]
      show (if h + w at' fr < q.1 then some (h + w at' fr, r) else some q) = some q
      rw [if_neg (by omega)]
    · rw [if_neg c]
      have key : ∀ k, fld (fun o b => if L.testBit o = true ∧ w at' o < 100000 then tC P w fr n o (rmv L o) (h + w at' o) (10 * r + o) b else b) k (some q) = some q := by
        intro k
        induction k with
        | zero => rfl
        | succ k ihk =>
          show (if L.testBit k = true ∧ w at' k < 100000 then tC P w fr n k (rmv L k) (h + w at' k) (10 * r + k) (fld _ k (some q)) else fld _ k (some q)) = some q
          rw [ihk]
          by_cases c2 : L.testBit k = true ∧ w at' k < 100000
          · rw [if_pos c2]; exact ih _ _ _ _ (by omega)
          · rw [if_neg c2]
      exact key P
def lowR (b : Option (Nat × Nat)) (lo : Nat) : Prop := ∀ q, b = some q → q.2 < lo
theorem tour_eq (hP : P ≤ 7) : ∀ n at' L h r b, L < 128 → cntB L 7 < n → lowR b (r * 10 ^ cntB L 7) → tM P w fr n at' L h r b = tC P w fr n at' L h r b ∧ lowR (tC P w fr n at' L h r b) ((r + 1) * 10 ^ cntB L 7) := by
  intro n
  induction n with
  | zero => intro at' L h r b _ hc; omega
  | succ n ih =>
    intro at' L h r b hL hc hlo
    have eM : tM P w fr (n + 1) at' L h r b = if prn b h = true then b else if L = 0 then lfM b (h + w at' fr) r else fld (fun o b => if L.testBit o = true ∧ w at' o < 100000 then tM P w fr n o (rmv L o) (h + w at' o) (10 * r + o) b else b) P b := rfl
    have eC : tC P w fr (n + 1) at' L h r b = if L = 0 then lfC b (h + w at' fr) r else fld (fun o b => if L.testBit o = true ∧ w at' o < 100000 then tC P w fr n o (rmv L o) (h + w at' o) (10 * r + o) b else b) P b := rfl
    have hpow : 1 ≤ 10 ^ cntB L 7 := Nat.one_le_pow _ _ (by decide)
    have hup : r * 10 ^ cntB L 7 ≤ (r + 1) * 10 ^ cntB L 7 := Nat.mul_le_mul_right _ (by omega)
    by_cases cp : prn b h = true
    · match b, cp, hlo with
      | some q, cp, hlo =>
        have cp : decide (q.1 < h) = true := cp
        rw [decide_eq_true_eq] at cp
        rw [tC_id P w fr (n + 1) at' L h r cp, eM, if_pos (show prn (some q) h = true from decide_eq_true cp)]
        exact ⟨rfl, fun z hz => Nat.lt_of_lt_of_le (hlo z hz) hup⟩
    · rw [eM, eC, if_neg cp]
      by_cases cL : L = 0
      · rw [if_pos cL, if_pos cL]
        subst cL
        rw [cntB_z, Nat.pow_zero, Nat.mul_one] at hlo ⊢
        match b, hlo with
        | none, hlo => exact ⟨rfl, fun z hz => by cases hz; omega⟩
        | some q, hlo =>
          have h1 := hlo q rfl
          show (if h + w at' fr < q.1 ∨ (h + w at' fr = q.1 ∧ r < q.2) then some (h + w at' fr, r) else some q) = (if h + w at' fr < q.1 then some (h + w at' fr, r) else some q) ∧ lowR (if h + w at' fr < q.1 then some (h + w at' fr, r) else some q) (r + 1)
          by_cases c : h + w at' fr < q.1
          · rw [if_pos (Or.inl c), if_pos c]
            exact ⟨rfl, fun z hz => by cases hz; show r < r + 1; omega⟩
          · rw [if_neg (by omega), if_neg c]
            exact ⟨rfl, fun z hz => by cases hz; omega⟩
      · rw [if_neg cL, if_neg cL]
        have hm : cntB L 7 ≠ 0 := fun h0 => cL (cntB_0 (n := 7) hL h0)
        obtain ⟨m, hm⟩ : ∃ m, cntB L 7 = m + 1 := ⟨cntB L 7 - 1, by omega⟩
        have e10 : 10 ^ cntB L 7 = 10 * 10 ^ m := by rw [hm, Nat.pow_succ, Nat.mul_comm]
        have key : ∀ k, k ≤ P → fld (fun o b => if L.testBit o = true ∧ w at' o < 100000 then tM P w fr n o (rmv L o) (h + w at' o) (10 * r + o) b else b) k b = fld (fun o b => if L.testBit o = true ∧ w at' o < 100000 then tC P w fr n o (rmv L o) (h + w at' o) (10 * r + o) b else b) k b ∧ lowR (fld (fun o b => if L.testBit o = true ∧ w at' o < 100000 then tC P w fr n o (rmv L o) (h + w at' o) (10 * r + o) b else b) k b) ((10 * r + k) * 10 ^ m) := by
          intro k
          induction k with
          | zero =>
            intro _
            refine ⟨rfl, fun z hz => ?_⟩
            have := hlo z hz
            rw [e10] at this
            rw [Nat.add_zero, Nat.mul_assoc, Nat.mul_left_comm]
            exact this
          | succ k ihk =>
            intro hk
            obtain ⟨i1, i2⟩ := ihk (by omega)
            show (if L.testBit k = true ∧ w at' k < 100000 then tM P w fr n k (rmv L k) (h + w at' k) (10 * r + k) (fld _ k b) else fld _ k b) = (if L.testBit k = true ∧ w at' k < 100000 then tC P w fr n k (rmv L k) (h + w at' k) (10 * r + k) (fld _ k b) else fld _ k b) ∧ lowR (if L.testBit k = true ∧ w at' k < 100000 then tC P w fr n k (rmv L k) (h + w at' k) (10 * r + k) (fld _ k b) else fld _ k b) ((10 * r + (k + 1)) * 10 ^ m)
            rw [i1]
            by_cases c : L.testBit k = true ∧ w at' k < 100000
            · rw [if_pos c, if_pos c]
              have hcn := (rmv_cnt c.1 7).2 (by omega)
              have em : cntB (rmv L k) 7 = m := by omega
              have := ih k (rmv L k) (h + w at' k) (10 * r + k) _ (rmv_lt (n := 7) hL) (by omega) (by rw [em]; exact i2)
              rw [em] at this
              exact this
            · rw [if_neg c, if_neg c]
              refine ⟨rfl, fun z hz => Nat.lt_of_lt_of_le (i2 z hz) (Nat.mul_le_mul_right _ (by omega))⟩
        obtain ⟨k1, k2⟩ := key P (Nat.le_refl _)
        refine ⟨k1, fun z hz => Nat.lt_of_lt_of_le (k2 z hz) ?_⟩
        rw [e10, ← Nat.mul_assoc]
        exact Nat.mul_le_mul_right _ (by omega)
end TOUR
def bHn (b : Option (Nat × Nat)) : Nat := match b with
  | none => 1000000
  | some q => q.1
def bRw (b : Option (Nat × Nat)) : Int32 := match b with
  | none => -1
  | some q => nI q.2
def okB (b : Option (Nat × Nat)) : Prop := ∀ q, b = some q → q.1 < 100000 ∧ q.2 < 100000000
def tsC (fr : Nat) (b : Option (Nat × Nat)) (σ : sgS) : Prop := σ.1 330 3 = nI fr ∧ σ.1 330 5 = nI (bHn b) ∧ σ.1 330 6 = bRw b
def tsM (b : Option (Nat × Nat)) (τ : sgS) : Prop := τ.1 0 46 = bRw b ∧ ∀ q, b = some q → τ.1 0 47 = nI q.1
def p330 (j _k : Nat) : Prop := j = 330
def p0b (j k : Nat) : Prop := j = 0 ∧ (k = 46 ∨ k = 47 ∨ k = 48)
theorem netC_fr {K : Cty} {H : Nat → Nat} {X : Nat} {σ σ' : sgS} (h : netC K H X σ) (okk : okK K) (f : Fr p330 σ σ') : netC K H X σ' := by
  have hp7 := okk.1
  obtain ⟨h1, h2, h3⟩ := h
  refine ⟨fun a b ha hb => ?_, ?_, fun r hr => ?_⟩
  · rw [f (304 + a) b (by unfold p330; omega), f (312 + a) b (by unfold p330; omega)]; exact h1 a b ha hb
  · rw [f 302 5 (by unfold p330; omega)]; exact h2
  · rw [f 51 r (by unfold p330; omega)]; exact h3 r hr
theorem netM_fr {K : Cty} {H : Nat → Nat} {X : Nat} {τ τ' : sgS} (h : netM K H X τ) (f : Fr p0b τ τ') : netM K H X τ' := by
  obtain ⟨h1, h3⟩ := h
  refine ⟨fun a b ha hb => ?_, fun r hr => ?_⟩
  · rw [f 26 _ (by unfold p0b; omega), f 27 _ (by unfold p0b; omega)]; exact h1 a b ha hb
  · rw [f 23 r (by unfold p0b; omega)]; exact h3 r hr
theorem bHn_lt {b : Option (Nat × Nat)} (h : okB b) : bHn b ≤ 1000000 := by
  match b, h with
  | none, _ => exact Nat.le_refl _
  | some q, h => have := (h q rfl).1; show q.1 ≤ 1000000; omega
theorem lfC_ok {b : Option (Nat × Nat)} {a r : Nat} (hb : okB b) (ha : a < 100000) (hr : r < 100000000) : okB (lfC b a r) ∧ (lfC b a r = if a < bHn b then some (a, r) else b) := by
  match b, hb with
  | none, hb =>
    have e : lfC none a r = some (a, r) := rfl
    rw [e]
    refine ⟨fun q hq => by cases hq; exact ⟨ha, hr⟩, ?_⟩
    show _ = if a < 1000000 then some (a, r) else none
    rw [if_pos (by omega)]
  | some q, hb =>
    have e : lfC (some q) a r = if a < q.1 then some (a, r) else some q := rfl
    rw [e]
    refine ⟨?_, rfl⟩
    by_cases c : a < q.1
    · rw [if_pos c]; exact fun z hz => by cases hz; exact ⟨ha, hr⟩
    · rw [if_neg c]; exact hb
/-- what holds of a call -/
def tcl (K : Cty) (H : Nat → Nat) (X fr at' L h r : Nat) : Prop := at' < cP K ∧ L < 128 ∧ fwW K H X at' fr < 100000 ∧ h ≤ 3072 * (8 - cntB L 7) ∧ r < 10 ^ (8 - cntB L 7)
theorem tcl_s {K : Cty} {H : Nat → Nat} {X fr at' L h r o : Nat} (okk : okK K) (oH : okH K H) (t : tcl K H X fr at' L h r) (ho : o < cP K) (hb : L.testBit o = true) (hw : fwW K H X at' o < 100000) : tcl K H X fr o (rmv L o) (h + fwW K H X at' o) (10 * r + o) ∧ cntB (rmv L o) 7 + 1 = cntB L 7 := by
  have hp7 := okk.1
  obtain ⟨t1, t2, t3, t4, t5⟩ := t
  have hcn := (rmv_cnt hb 7).2 (by omega)
  have h7 := cntB_le (R := L) 7
  have b1 := (fwW_bd (X := X) (i := at') (j := o) okk oH).2 hw
  have b2 := (fwW_bd (X := X) (i := at') (j := fr) okk oH).2 t3
  have b3 := fwW_tri (K := K) (H := H) (X := X) (i := o) (j := fr) (k := at') t1
  rw [fwW_sym (i := o) (j := at')] at b3
  refine ⟨⟨ho, rmv_lt (n := 7) t2, by omega, ?_, ?_⟩, hcn⟩
  · have : 8 - cntB (rmv L o) 7 = (8 - cntB L 7) + 1 := by omega
    rw [this]; omega
  · have : 8 - cntB (rmv L o) 7 = (8 - cntB L 7) + 1 := by omega
    rw [this, Nat.pow_succ]; omega
theorem pow8 {n : Nat} (h : n ≤ 8) : 10 ^ n ≤ 100000000 := Nat.pow_le_pow_right (n := 10) (by decide) h
theorem tourC_ok {K : Cty} {H : Nat → Nat} {X fr : Nat} (okk : okK K) (oH : okH K H) (hfr : fr < cP K) : ∀ n d at' L h r b σ, n ≤ d → cntB L 7 < n → CK K σ → netC K H X σ → tsC fr b σ → okB b → tcl K H X fr at' L h r → ∃ σ', f_X2_goOnTour d 10000 (nI at') (nI L) (nI h) (nI r) σ = some (0, σ') ∧ tsC fr (tC (cP K) (fwW K H X) fr n at' L h r b) σ' ∧ okB (tC (cP K) (fwW K H X) fr n at' L h r b) ∧ Fr p330 σ σ' := by
  have hp7 := okk.1
  intro n
  induction n with
  | zero => intro d at' L h r b σ _ hc; omega
  | succ n ih =>
    intro d at' L h r b σ hd hc hK hn hS hB ht
    obtain ⟨d, rfl⟩ : ∃ m, d = m + 1 := ⟨d - 1, by omega⟩
    have h7 := cntB_le (R := L) 7
    obtain ⟨t1, t2, t3, t4, t5⟩ := id ht
    have hr8 := pow8 (n := 8 - cntB L 7) (by omega)
    have b2 := (fwW_bd (X := X) (i := at') (j := fr) okk oH).2 t3
    show ∃ σ', f_X2_goOnTour_b 10000 (f_X2_goOnTour d 10000) (nI at') (nI L) (nI h) (nI r) σ = some (0, σ') ∧ tsC fr (if L = 0 then lfC b (h + fwW K H X at' fr) r else fld (fun o b => if L.testBit o = true ∧ fwW K H X at' o < 100000 then tC (cP K) (fwW K H X) fr n o (rmv L o) (h + fwW K H X at' o) (10 * r + o) b else b) (cP K) b) σ' ∧ okB (if L = 0 then lfC b (h + fwW K H X at' fr) r else fld (fun o b => if L.testBit o = true ∧ fwW K H X at' o < 100000 then tC (cP K) (fwW K H X) fr n o (rmv L o) (h + fwW K H X at' o) (10 * r + o) b else b) (cP K) b) ∧ Fr p330 σ σ'
    unfold f_X2_goOnTour_b
    by_cases cL : L = 0
    · rw [if_pos cL, if_pos (by rw [cL]; rfl), rf_ok (by omega) (by decide), hS.1, ld_ok (by omega) (by decide), (hn.1 at' fr t1 hfr).2, fwC_lt t3, nJ_add, hS.2.1]
      have hbl := bHn_lt hB
      obtain ⟨l1, l2⟩ := lfC_ok (a := h + fwW K H X at' fr) (r := r) hB (by omega) (by omega)
      refine ⟨if h + fwW K H X at' fr < bHn b then sg_up (sg_up σ 330 5 (nI (h + fwW K H X at' fr))) 330 6 (nI r) else σ, ?_, ?_, l1, ?_⟩
      · by_cases c : h + fwW K H X at' fr < bHn b
        · rw [if_pos c, if_neg (by rw [nJ_le (by omega) (by omega)]; omega), pf_eq, pf_eq]
        · rw [if_neg c, if_pos (by rw [nJ_le (by omega) (by omega)]; omega)]
      · rw [l2]
        by_cases c : h + fwW K H X at' fr < bHn b
        · rw [if_pos c, if_pos c]
          refine ⟨?_, ?_, up_at⟩
          · rw [up_nk (by decide), up_nk (by decide)]; exact hS.1
          · rw [up_nk (by decide), up_at]; rfl
        · rw [if_neg c, if_neg c]; exact hS
      · by_cases c : h + fwW K H X at' fr < bHn b
        · rw [if_pos c]; exact Fr.tr (Fr.up rfl) (Fr.up rfl)
        · rw [if_neg c]; exact Fr.rf
    · rw [if_neg cL, if_neg (by rw [eq0_F (by omega) (by omega)]; exact id)]
      obtain ⟨σ', e, g1, g2, g3⟩ := lp_st (b := fun x : sgS × Int32 => f_X2_goOnTour_b_L47 10000 (f_X2_goOnTour d 10000) (nI at') (nI L) (nI h) (nI r) x.2 x.1) (n := cP K) (fun k s => tsC fr (fld (fun o b => if L.testBit o = true ∧ fwW K H X at' o < 100000 then tC (cP K) (fwW K H X) fr n o (rmv L o) (h + fwW K H X at' o) (10 * r + o) b else b) k b) s ∧ okB (fld (fun o b => if L.testBit o = true ∧ fwW K H X at' o < 100000 then tC (cP K) (fwW K H X) fr n o (rmv L o) (h + fwW K H X at' o) (10 * r + o) b else b) k b) ∧ Fr p330 σ s) (by
        rintro k s hk ⟨g1, g2, g3⟩
        have K1 : CK K s := CK_fr hK (fun j a b => funext fun q => g3 j q (by unfold p330; omega))
        have n1 := netC_fr hn okk g3
        show ∃ σ', f_X2_goOnTour_b_L47 10000 (f_X2_goOnTour d 10000) (nI at') (nI L) (nI h) (nI r) (nI k) s = _ ∧ tsC fr (if L.testBit k = true ∧ fwW K H X at' k < 100000 then tC (cP K) (fwW K H X) fr n k (rmv L k) (h + fwW K H X at' k) (10 * r + k) (fld _ k b) else fld _ k b) σ' ∧ okB (if L.testBit k = true ∧ fwW K H X at' k < 100000 then tC (cP K) (fwW K H X) fr n k (rmv L k) (h + fwW K H X at' k) (10 * r + k) (fld _ k b) else fld _ k b) ∧ _
        unfold f_X2_goOnTour_b_L47
        rw [K1.1, if_neg (by rw [nJ_le (by omega) (by omega)]; omega), shr_nI (by omega), nJ_addL]
        by_cases c1 : L.testBit k = true
        · rw [if_neg (by rw [if_pos c1]; decide), reaches_ok okk n1 t1 hk, cr_some]
          by_cases c2 : fwW K H X at' k < 100000
          · obtain ⟨u1, u2⟩ := tcl_s okk oH ht hk c1 c2
            obtain ⟨s', e, q1, q2, q3⟩ := ih d k (rmv L k) (h + fwW K H X at' k) (10 * r + k) _ s (by omega) (by omega) K1 n1 g1 g2 u1
            rw [if_pos c2, if_neg nn10, rf_ok (by omega) (by decide), ld_ok (by omega) (by decide), (n1.1 at' k t1 hk).2, fwC_lt c2, shl_1 (by omega), and_not, nJ_add, nJ_mulL, nJ_add, Nat.mul_comm r 10]
            have e : f_X2_goOnTour d 10000 (nI k) (nI (L &&& (L ^^^ 2 ^ k))) (nI (h + fwW K H X at' k)) (nI (10 * r + k)) s = some (0, s') := e
            rw [e, cl_some, if_pos ⟨c1, c2⟩]
            exact ⟨s', rfl, q1, q2, g3.tr q3⟩
          · rw [if_neg c2, if_pos rfl, if_neg (fun h => c2 h.2)]
            exact ⟨s, rfl, g1, g2, g3⟩
        · rw [if_pos (by rw [if_neg c1]), if_neg (fun h => c1 h.1)]
          exact ⟨s, rfl, g1, g2, g3⟩) (by
        rintro s ⟨g1, g2, g3⟩
        have K1 : CK K s := CK_fr hK (fun j a b => funext fun q => g3 j q (by unfold p330; omega))
        show f_X2_goOnTour_b_L47 10000 (f_X2_goOnTour d 10000) (nI at') (nI L) (nI h) (nI r) (nI (cP K)) s = _
        unfold f_X2_goOnTour_b_L47
        rw [K1.1, if_pos (by rw [nJ_le (by omega) (by omega)]; omega)]) 10000 0 σ (by omega) (by omega) ⟨hS, hB, Fr.rf⟩
      have e : sg_lp (fun x : sgS × Int32 => f_X2_goOnTour_b_L47 10000 (f_X2_goOnTour d 10000) (nI at') (nI L) (nI h) (nI r) x.2 x.1) 10000 ((σ, 0)) = _ := e
      rw [e, lb_inr]
      exact ⟨σ', rfl, g1, g2, g3⟩
theorem bRw_none {b : Option (Nat × Nat)} (h : okB b) : (bRw b = -1) ↔ b = none := by
  match b, h with
  | none, _ => exact ⟨fun _ => rfl, fun _ => rfl⟩
  | some q, h =>
    have := (h q rfl).2
    constructor
    · intro e
      have e : nI q.2 = -1 := e
      rw [nJ_ne_neg (by omega)] at e
      exact e.elim
    · intro e; cases e
theorem lfM_ok {b : Option (Nat × Nat)} {a r : Nat} (hb : okB b) (ha : a < 100000) (hr : r < 100000000) : okB (lfM b a r) := by
  match b, hb with
  | none, hb => exact fun q hq => by cases hq; exact ⟨ha, hr⟩
  | some q, hb =>
    have e : lfM (some q) a r = if a < q.1 ∨ (a = q.1 ∧ r < q.2) then some (a, r) else some q := rfl
    rw [e]
    by_cases c : a < q.1 ∨ (a = q.1 ∧ r < q.2)
    · rw [if_pos c]; exact fun z hz => by cases hz; exact ⟨ha, hr⟩
    · rw [if_neg c]; exact hb
theorem tourM_ok {K : Cty} {H : Nat → Nat} {X fr : Nat} (okk : okK K) (oH : okH K H) (hfr : fr < cP K) : ∀ n d at' L h r b τ, n ≤ d → cntB L 7 < n → MK K τ → netM K H X τ → tsM b τ → okB b → tcl K H X fr at' L h r → ∃ τ', f_X12_tryTour d 10000 (nI fr) (nI at') (nI L) (nI r) (nI h) τ = some (0, τ') ∧ tsM (tM (cP K) (fwW K H X) fr n at' L h r b) τ' ∧ okB (tM (cP K) (fwW K H X) fr n at' L h r b) ∧ Fr p0b τ τ' := by
  have hp7 := okk.1
  intro n
  induction n with
  | zero => intro d at' L h r b σ _ hc; omega
  | succ n ih =>
    intro d at' L h r b τ hd hc hK hn hS hB ht
    obtain ⟨d, rfl⟩ : ∃ m, d = m + 1 := ⟨d - 1, by omega⟩
    have h7 := cntB_le (R := L) 7
    obtain ⟨t1, t2, t3, t4, t5⟩ := id ht
    have hr8 := pow8 (n := 8 - cntB L 7) (by omega)
    have b2 := (fwW_bd (X := X) (i := at') (j := fr) okk oH).2 t3
    show ∃ τ', f_X12_tryTour_b 10000 (f_X12_tryTour d 10000) (nI fr) (nI at') (nI L) (nI r) (nI h) τ = some (0, τ') ∧ tsM (if prn b h = true then b else if L = 0 then lfM b (h + fwW K H X at' fr) r else fld (fun o b => if L.testBit o = true ∧ fwW K H X at' o < 100000 then tM (cP K) (fwW K H X) fr n o (rmv L o) (h + fwW K H X at' o) (10 * r + o) b else b) (cP K) b) τ' ∧ okB (if prn b h = true then b else if L = 0 then lfM b (h + fwW K H X at' fr) r else fld (fun o b => if L.testBit o = true ∧ fwW K H X at' o < 100000 then tM (cP K) (fwW K H X) fr n o (rmv L o) (h + fwW K H X at' o) (10 * r + o) b else b) (cP K) b) ∧ Fr p0b τ τ'
    -- the part that isn't cut short
    have part : ∃ τ', f_X12_tryTour_b_B18 10000 (f_X12_tryTour d 10000) (nI fr) (nI at') (nI L) (nI r) (nI h) τ = some (0, τ') ∧ tsM (if L = 0 then lfM b (h + fwW K H X at' fr) r else fld (fun o b => if L.testBit o = true ∧ fwW K H X at' o < 100000 then tM (cP K) (fwW K H X) fr n o (rmv L o) (h + fwW K H X at' o) (10 * r + o) b else b) (cP K) b) τ' ∧ okB (if L = 0 then lfM b (h + fwW K H X at' fr) r else fld (fun o b => if L.testBit o = true ∧ fwW K H X at' o < 100000 then tM (cP K) (fwW K H X) fr n o (rmv L o) (h + fwW K H X at' o) (10 * r + o) b else b) (cP K) b) ∧ Fr p0b τ τ' := by
      unfold f_X12_tryTour_b_B18
      by_cases cL : L = 0
      · rw [if_pos cL, if_pos (by rw [cL]; rfl), awayOf_ok hn (by omega) (by omega), cr_some, nJ_add, hS.1]
        have l1 := lfM_ok (a := h + fwW K H X at' fr) (r := r) hB (by omega) (by omega)
        have set : tsM (some (h + fwW K H X at' fr, r)) (sg_up (sg_up τ 0 46 (nI r)) 0 47 (nI (h + fwW K H X at' fr))) := ⟨by rw [up_nk (by decide), up_at]; rfl, fun q hq => by cases hq; rw [up_at]⟩
        have frm : Fr p0b τ (sg_up (sg_up τ 0 46 (nI r)) 0 47 (nI (h + fwW K H X at' fr))) := Fr.tr (Fr.up ⟨rfl, Or.inl rfl⟩) (Fr.up ⟨rfl, Or.inr (Or.inl rfl)⟩)
        match b, hB, hS, l1 with
        | none, hB, hS, l1 =>
          rw [if_pos (show bRw none = -1 from rfl), pf_eq, pf_eq]
          exact ⟨_, rfl, set, l1, frm⟩
        | some q, hB, hS, l1 =>
          have hq := hB q rfl
          have e47 := hS.2 q rfl
          rw [if_neg (by show ¬ nI q.2 = -1; rw [nJ_ne_neg (by omega)]; exact id), e47, pf_eq, pf_eq]
          have el : lfM (some q) (h + fwW K H X at' fr) r = if h + fwW K H X at' fr < q.1 ∨ (h + fwW K H X at' fr = q.1 ∧ r < q.2) then some (h + fwW K H X at' fr, r) else some q := rfl
          rw [el] at l1 ⊢
          by_cases c1 : h + fwW K H X at' fr < q.1
          · rw [if_pos (by rw [nJ_lt (by omega) (by omega)]; exact c1)]
            rw [if_pos (Or.inl c1)] at l1 ⊢
            exact ⟨_, rfl, set, l1, frm⟩
          · rw [if_neg (by rw [nJ_lt (by omega) (by omega)]; exact c1)]
            by_cases c2 : h + fwW K H X at' fr = q.1
            · rw [if_pos (by rw [c2])]
              by_cases c3 : r < q.2
              · rw [if_neg (by show ¬ nI q.2 ≤ nI r; rw [nJ_le (by omega) (by omega)]; omega)]
                rw [if_pos (Or.inr ⟨c2, c3⟩)] at l1 ⊢
                exact ⟨_, rfl, set, l1, frm⟩
              · rw [if_pos (by show nI q.2 ≤ nI r; rw [nJ_le (by omega) (by omega)]; omega)]
                rw [if_neg (by omega)] at l1 ⊢
                exact ⟨_, rfl, hS, l1, Fr.rf⟩
            · rw [if_neg (by rw [nJ_eq (by omega) (by omega)]; exact c2)]
              rw [if_neg (by omega)] at l1 ⊢
              exact ⟨_, rfl, hS, l1, Fr.rf⟩
      · rw [if_neg cL, if_neg (by rw [eq0_F (by omega) (by omega)]; exact id)]
        obtain ⟨τ', e, g1, g2, g3⟩ := lp_st (b := fun x : sgS × Int32 => f_X12_tryTour_b_L84 10000 (f_X12_tryTour d 10000) (nI fr) (nI at') (nI L) (nI r) (nI h) x.2 x.1) (n := cP K) (fun k s => tsM (fld (fun o b => if L.testBit o = true ∧ fwW K H X at' o < 100000 then tM (cP K) (fwW K H X) fr n o (rmv L o) (h + fwW K H X at' o) (10 * r + o) b else b) k b) s ∧ okB (fld (fun o b => if L.testBit o = true ∧ fwW K H X at' o < 100000 then tM (cP K) (fwW K H X) fr n o (rmv L o) (h + fwW K H X at' o) (10 * r + o) b else b) k b) ∧ Fr p0b τ s) (by
          rintro k s hk ⟨g1, g2, g3⟩
          have K1 : MK K s := MK_fr hK (fun j a b => funext fun q => g3 j q (by unfold p0b; omega)) (fun q a b => g3 0 q (by unfold p0b; omega))
          have n1 := netM_fr hn g3
          have bk := fwW_bd (X := X) (i := at') (j := k) okk oH
          show ∃ σ', f_X12_tryTour_b_L84 10000 (f_X12_tryTour d 10000) (nI fr) (nI at') (nI L) (nI r) (nI h) (nI k) s = _ ∧ tsM (if L.testBit k = true ∧ fwW K H X at' k < 100000 then tM (cP K) (fwW K H X) fr n k (rmv L k) (h + fwW K H X at' k) (10 * r + k) (fld _ k b) else fld _ k b) σ' ∧ okB (if L.testBit k = true ∧ fwW K H X at' k < 100000 then tM (cP K) (fwW K H X) fr n k (rmv L k) (h + fwW K H X at' k) (10 * r + k) (fld _ k b) else fld _ k b) ∧ _
          unfold f_X12_tryTour_b_L84
          rw [K1.1, if_neg (by rw [nJ_le (by omega) (by omega)]; omega), has_nI (by omega), cr_some, nJ_addL]
          by_cases c1 : L.testBit k = true
          · rw [if_neg (by rw [if_pos c1]; decide), awayOf_ok n1 (by omega) (by omega), cr_some, cr_some]
            by_cases c2 : fwW K H X at' k < 100000
            · obtain ⟨u1, u2⟩ := tcl_s okk oH ht hk c1 c2
              obtain ⟨s', e, q1, q2, q3⟩ := ih d k (rmv L k) (h + fwW K H X at' k) (10 * r + k) _ s (by omega) (by omega) K1 n1 g1 g2 u1
              rw [if_neg (by rw [nJ_Lle (by omega) (by decide)]; omega), shl_1 (by omega), and_not, nJ_add, nJ_Lmul, nJ_add]
              have e : f_X12_tryTour d 10000 (nI fr) (nI k) (nI (L &&& (L ^^^ 2 ^ k))) (nI (10 * r + k)) (nI (h + fwW K H X at' k)) s = some (0, s') := e
              rw [e, cl_some, if_pos ⟨c1, c2⟩]
              exact ⟨s', rfl, q1, q2, g3.tr q3⟩
            · rw [if_pos (by rw [nJ_Lle (by omega) (by decide)]; omega), if_neg (fun h => c2 h.2)]
              exact ⟨s, rfl, g1, g2, g3⟩
          · rw [if_pos (by rw [if_neg c1]), if_neg (fun h => c1 h.1)]
            exact ⟨s, rfl, g1, g2, g3⟩) (by
          rintro s ⟨g1, g2, g3⟩
          have K1 : MK K s := MK_fr hK (fun j a b => funext fun q => g3 j q (by unfold p0b; omega)) (fun q a b => g3 0 q (by unfold p0b; omega))
          show f_X12_tryTour_b_L84 10000 (f_X12_tryTour d 10000) (nI fr) (nI at') (nI L) (nI r) (nI h) (nI (cP K)) s = _
          unfold f_X12_tryTour_b_L84
          rw [K1.1, if_pos (by rw [nJ_le (by omega) (by omega)]; omega)]) 10000 0 τ (by omega) (by omega) ⟨hS, hB, Fr.rf⟩
        have e : sg_lp (fun x : sgS × Int32 => f_X12_tryTour_b_L84 10000 (f_X12_tryTour d 10000) (nI fr) (nI at') (nI L) (nI r) (nI h) x.2 x.1) 10000 ((τ, 0)) = _ := e
        rw [e, lb_inr]
        exact ⟨τ', rfl, g1, g2, g3⟩
    unfold f_X12_tryTour_b
    rw [hS.1]
    match b, hB, hS, part with
    | none, hB, hS, part =>
      rw [if_pos (show bRw none = -1 from rfl), if_neg (show ¬ prn none h = true from fun hh => by cases hh)]
      exact part
    | some q, hB, hS, part =>
      have hq := hB q rfl
      rw [if_neg (by show ¬ nI q.2 = -1; rw [nJ_ne_neg (by omega)]; exact id), hS.2 q rfl]
      by_cases c : q.1 < h
      · rw [if_neg (by rw [nJ_le (by omega) (by omega)]; omega), if_pos (show prn (some q) h = true from decide_eq_true c)]
        exact ⟨τ, rfl, hS, hB, Fr.rf⟩
      · rw [if_pos (by rw [nJ_le (by omega) (by omega)]; omega), if_neg (show ¬ prn (some q) h = true by show ¬ decide (q.1 < h) = true; rw [decide_eq_true_eq]; exact c)]
        exact part
/-! some places -/
theorem some_y {N k P : Nat} {σ τ : sgS} (eC : σ.1 3 3 = nI P) (eM : τ.1 0 28 = nI P) (hP : P ≤ 7) (hP0 : P ≠ 0) (h1 : 1 ≤ k) (h2 : k < 2 ^ P) : f_X0_hasAnyOf N 3 (nI k) σ = some 1 ∧ f_X12_areSome N (nI k) τ = some 1 := by
  have hp : 2 ^ P ≤ 128 := Nat.pow_le_pow_right (n := 2) (by decide) hP
  constructor
  · unfold f_X0_hasAnyOf
    rw [if_neg (by rw [le0_F (by omega) (by omega)]; exact id), eC, shl_1 (by omega), if_neg (by rw [nJ_le (by omega) (by omega)]; omega)]; rfl
  · unfold f_X12_areSome
    rw [eM, if_neg (by rw [le0_F (by omega) (by omega)]; exact id), shl_1 (by omega), nJ_1, nJ_sub (by omega), show f_X12_in N (nI k) (nI 1) (nI (2 ^ P - 1)) τ = _ from in_1y h1 (by omega) (by omega), cr_some]; rfl
theorem some_n {N P : Nat} {x : Int32} {σ τ : sgS} (eC : σ.1 3 3 = nI P) (eM : τ.1 0 28 = nI P) (hP : P ≤ 7) (h : x < 1 ∨ nI (2 ^ P - 1) < x) : f_X0_hasAnyOf N 3 x σ = some 0 ∧ f_X12_areSome N x τ = some 0 := by
  have hp : 2 ^ P ≤ 128 := Nat.pow_le_pow_right (n := 2) (by decide) hP
  have hp1 : 1 ≤ 2 ^ P := Nat.one_le_two_pow
  constructor
  · unfold f_X0_hasAnyOf
    by_cases c : x ≤ 0
    · rw [if_pos c]; rfl
    · rw [if_neg c, eC, shl_1 (by omega), if_pos]
      · rfl
      · rcases nJ_cases x with hx | ⟨k, hk, rfl⟩
        · exact absurd (Int32.le_of_lt hx) c
        · rw [nJ_0, nJ_le hk (by decide)] at c
          rw [nJ_le (by omega) hk]
          rcases h with h | h
          · rw [nJ_1, nJ_lt hk (by decide)] at h; omega
          · rw [nJ_lt (by omega) hk] at h; omega
  · unfold f_X12_areSome
    rw [eM]
    by_cases c : P = 0
    · rw [if_pos (by rw [c]; decide)]; rfl
    · rw [if_neg (by rw [le0_F (by omega) (by omega)]; exact id), shl_1 (by omega), nJ_1, nJ_sub (by omega), show f_X12_in N x (nI 1) (nI (2 ^ P - 1)) τ = _ from in_1n h, cr_some]; rfl
theorem lw_O29_ok : lw_O29 Rel := by
  intro a1 a2 a3
  refine q_eq (fun A σ τ ok C M => ⟨10000, 10000, ?_⟩)
  have hp7 : cP (aK A) ≤ 7 := ok.2.1.1
  have eC := C.2.1
  have eM := M.2.1
  unfold f_X11_tour f_X12_tour
  rcases nJ_rng a1 (cP (aK A)) (by omega) with ⟨p, hp1, rfl⟩ | h
  · have h0 : cP (aK A) ≠ 0 := by omega
    have hpw : 2 ^ cP (aK A) ≤ 128 := Nat.pow_le_pow_right (n := 2) (by decide) hp7
    rw [hasPlace_y eC.1 hp1 (by omega), isPlace_y eM.1 hp1 (by omega), cr_some, cr_some, if_neg nn10, if_neg nn10]
    rcases rng1 a2 (2 ^ cP (aK A) - 1) (by omega) with ⟨L, hL1, hL2, rfl⟩ | h
    · obtain ⟨s1, s2⟩ := some_y (N := 10000) eC.1 eM.1 hp7 h0 hL1 (show L < 2 ^ cP (aK A) by omega)
      rw [s1, s2, cr_some, cr_some, if_neg nn10, if_neg nn10]
      have done : ∀ w, w < 2 → ∃ r σ' τ', (sg_cl (f_X5_measure 10000 37 σ) fun v3 s4 => sg_cl (f_X2_findTour 10000 (nI p) (nI L) s4) fun v5 s6 => if v5 = 0 then some (-1, s6) else if nI w = 0 then some (s6.1 330 5, s6) else some (s6.1 330 6, s6)) = some (r, σ') ∧ (sg_cl (f_X12_layAway 10000 τ) fun v4 s5 => sg_pf s5 0 46 (-1) fun s6 => sg_cr (f_X12_has 10000 (nI L) (nI p) s6) fun v7 => if v7 = 0 then f_X12_tour_B59 10000 (nI p) (nI L) (nI w) (nI p) (nI p) (nI L &&& ((1 <<< (nI p &&& 31)) ^^^ (-1))) 0 s6 else f_X12_tour_B59 10000 (nI p) (nI L) (nI w) (nI p) (nI p) (nI L &&& ((1 <<< (nI p &&& 31)) ^^^ (-1))) (nI p) s6) = some (r, τ') ∧ Fr scC σ σ' ∧ Fr scM τ τ' := by
        intro w hw
        obtain ⟨H, σ1, τ1, e1, e2, ⟨oH, k1, k2, k3, k4, k5, k6⟩, f1, f2⟩ := net2 ok C M h0
        rw [e1, e2, cl_some, cl_some, pf_eq, has_nI (by omega), cr_some, shl_1 (by omega), and_not]
        generalize hr : (if L.testBit p = true then p else 0) = r0
        have hr0 : r0 < 10 := by rw [← hr]; split <;> omega
        have hb0 : okB none := fun q hq => by cases hq
        have c7 := cntB_le (R := rmv L p) 7
        have tc : tcl (aK A) H (sX (aS A)) p p (rmv L p) 0 r0 := ⟨hp1, rmv_lt (n := 7) (show L < 2 ^ 7 by omega), by rw [fwW_ii]; decide, Nat.zero_le _, Nat.lt_of_lt_of_le hr0 (by
          have : 10 ^ 1 ≤ 10 ^ (8 - cntB (rmv L p) 7) := Nat.pow_le_pow_right (by decide) (by omega)
          exact this)⟩
        have K3 : CK (aK A) (sg_up (sg_up (sg_up σ1 330 3 (nI p)) 330 5 1000000) 330 6 (-1)) := CK_fr k1 (fun j a b => by rw [up_ne (by omega), up_ne (by omega), up_ne (by omega)])
        have fr3 : Fr p330 σ1 (sg_up (sg_up (sg_up σ1 330 3 (nI p)) 330 5 1000000) 330 6 (-1)) := Fr.tr (Fr.tr (Fr.up rfl) (Fr.up rfl)) (Fr.up rfl)
        have S3 : tsC p none (sg_up (sg_up (sg_up σ1 330 3 (nI p)) 330 5 1000000) 330 6 (-1)) := ⟨by rw [up_nk (by decide), up_nk (by decide), up_at], by rw [up_nk (by decide), up_at]; rfl, up_at⟩
        obtain ⟨σ2, g1, g2, g3, g4⟩ := tourC_ok ok.2.1 oH hp1 8 40 p (rmv L p) 0 r0 none _ (by decide) (by omega) K3 (netC_fr k3 ok.2.1 fr3) S3 hb0 tc
        have fr4 : Fr p0b τ1 (sg_up τ1 0 46 (-1)) := Fr.up ⟨rfl, Or.inl rfl⟩
        have K4 : MK (aK A) (sg_up τ1 0 46 (-1)) := MK_fr k4 (fun j a b => by rw [up_ne (by omega)]) (fun q a b => by rw [up_nk (by omega)])
        obtain ⟨τ2, j1, j2, j3, j4⟩ := tourM_ok ok.2.1 oH hp1 8 40 p (rmv L p) 0 r0 none _ (by decide) (by omega) K4 (netM_fr k6 fr4) ⟨up_at, fun q hq => by cases hq⟩ hb0 tc
        have teq := (tour_eq (cP (aK A)) (fwW (aK A) H (sX (aS A))) p hp7 8 p (rmv L p) 0 r0 none (rmv_lt (n := 7) (show L < 2 ^ 7 by omega)) (by omega) (fun q hq => by cases hq)).1
        rw [teq] at j2 j3
        generalize tC (cP (aK A)) (fwW (aK A) H (sX (aS A))) p 8 p (rmv L p) 0 r0 none = b at g2 g3 j2 j3
        have FC : Fr scC σ σ2 := f1.tr ((fr3.tr g4).mono (fun j k h => by unfold p330 at h; unfold scC; omega))
        have FM : Fr scM τ τ2 := f2.tr ((fr4.tr j4).mono (fun j k h => by unfold p0b at h; unfold scM; omega))
        have eC : f_X2_findTour 10000 (nI p) (nI L) σ1 = if 1000000 ≤ nI (bHn b) then some (0, σ2) else some (1, σ2) := by
          unfold f_X2_findTour f_X2_findTour_B29 f_X2_findTour_B49
          rw [pf_eq, pf_eq, pf_eq, shr_nI (by omega), shl_1 (by omega), and_not]
          have g1 : f_X2_goOnTour 40 10000 (nI p) (nI (L &&& (L ^^^ 2 ^ p))) (nI 0) (nI r0) _ = _ := g1
          rw [← hr] at g1
          by_cases cb : L.testBit p = true
          · rw [if_pos cb] at g1
            rw [if_neg (by rw [if_pos cb]; decide), if_neg nn10]
            rw [show f_X2_goOnTour 40 10000 (nI p) (nI (L &&& (L ^^^ 2 ^ p))) 0 (nI p) _ = _ from g1, cl_some, g2.2.1]; rfl
          · rw [if_neg cb] at g1
            rw [if_pos (by rw [if_neg cb]), if_pos rfl]
            rw [show f_X2_goOnTour 40 10000 (nI p) (nI (L &&& (L ^^^ 2 ^ p))) 0 0 _ = _ from g1, cl_some, g2.2.1]; rfl
        have eMM : (if (if L.testBit p = true then (1 : Int32) else 0) = 0 then f_X12_tour_B59 10000 (nI p) (nI L) (nI w) (nI p) (nI p) (nI (L &&& (L ^^^ 2 ^ p))) 0 (sg_up τ1 0 46 (-1)) else f_X12_tour_B59 10000 (nI p) (nI L) (nI w) (nI p) (nI p) (nI (L &&& (L ^^^ 2 ^ p))) (nI p) (sg_up τ1 0 46 (-1))) = if bRw b = -1 then some (bRw b, τ2) else if nI w = 1 then some (bRw b, τ2) else some (τ2.1 0 47, τ2) := by
          have j1 : f_X12_tryTour 40 10000 (nI p) (nI p) (nI (L &&& (L ^^^ 2 ^ p))) (nI r0) (nI 0) _ = _ := j1
          rw [← hr] at j1
          unfold f_X12_tour_B59
          by_cases cb : L.testBit p = true
          · rw [if_pos cb] at j1
            rw [if_neg (by rw [if_pos cb]; decide), show f_X12_tryTour 40 10000 (nI p) (nI p) (nI (L &&& (L ^^^ 2 ^ p))) (nI p) 0 _ = _ from j1, cl_some, j2.1]
          · rw [if_neg cb] at j1
            rw [if_pos (by rw [if_neg cb]), show f_X12_tryTour 40 10000 (nI p) (nI p) (nI (L &&& (L ^^^ 2 ^ p))) 0 0 _ = _ from j1, cl_some, j2.1]
        rw [eC, eMM]
        match b, g2, g3, j2 with
        | none, g2, g3, j2 =>
          rw [if_pos (show (1000000 : Int32) ≤ nI (bHn none) by decide), cl_some, if_pos rfl, if_pos (show bRw none = -1 from rfl)]
          exact ⟨_, _, _, rfl, rfl, FC, FM⟩
        | some q, g2, g3, j2 =>
          have hq := g3 q rfl
          rw [if_neg (show ¬ (1000000 : Int32) ≤ nI (bHn (some q)) by show ¬ (1000000 : Int32) ≤ nI q.1; rw [nJ_Lle (by omega) (by decide)]; omega), cl_some, if_neg nn10, if_neg (show ¬ bRw (some q) = -1 by show ¬ nI q.2 = -1; rw [nJ_ne_neg (by omega)]; exact id), g2.2.1, g2.2.2, j2.2 q rfl]
          have hw2 : w = 0 ∨ w = 1 := by omega
          rcases hw2 with rfl | rfl
          · exact ⟨_, _, _, rfl, rfl, FC, FM⟩
          · exact ⟨_, _, _, rfl, rfl, FC, FM⟩
      by_cases c0 : a3 = 0
      · subst c0
        obtain ⟨r, σ', τ', d1, d2, d3, d4⟩ := done 0 (by decide)
        refine ⟨r, σ', τ', ?_, ?_, d3, d4⟩
        · rw [if_neg (by decide), if_pos (by decide)]; exact d1
        · rw [in01_0, cr_some, if_neg nn10]; exact d2
      · by_cases c1 : a3 = 1
        · subst c1
          obtain ⟨r, σ', τ', d1, d2, d3, d4⟩ := done 1 (by decide)
          refine ⟨r, σ', τ', ?_, ?_, d3, d4⟩
          · rw [if_neg (by decide), if_pos (by decide)]; exact d1
          · rw [in01_1, cr_some, if_neg nn10]; exact d2
        · have h5 := not01 c0 c1
          rw [in01_n h5, cr_some, if_pos rfl]
          by_cases h6 : a3 < 0
          · rw [if_pos h6]
            exact ⟨_, _, _, rfl, rfl, Fr.rf, Fr.rf⟩
          · have h7 : ¬ a3 ≤ 1 := by
              rcases nJ_cases a3 with hx | ⟨q, hq, rfl⟩
              · exact absurd hx h6
              · have := h5.resolve_left h6
                rw [nJ_le (by decide) hq] at this
                rw [nJ_1, nJ_le hq (by decide)]; omega
            rw [if_neg h6, if_neg h7]
            exact ⟨_, _, _, rfl, rfl, Fr.rf, Fr.rf⟩
    · obtain ⟨s1, s2⟩ := some_n (N := 10000) eC.1 eM.1 hp7 h
      rw [s1, s2]
      exact ⟨_, _, _, rfl, rfl, Fr.rf, Fr.rf⟩
  · rw [hasPlace_n eC.1 h, isPlace_n eM.1 h (by omega)]
    exact ⟨_, _, _, rfl, rfl, Fr.rf, Fr.rf⟩
