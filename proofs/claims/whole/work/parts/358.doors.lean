/-! DOORS: how many go, hours, row -/
def lgC (b : Option (Nat × Nat × Nat)) (g h r : Nat) : Option (Nat × Nat × Nat) := match b with
  | none => some (g, h, r)
  | some q => if q.1 < g ∨ (g = q.1 ∧ h < q.2.1) then some (g, h, r) else some q
def lgM (b : Option (Nat × Nat × Nat)) (g h r : Nat) : Option (Nat × Nat × Nat) := match b with
  | none => some (g, h, r)
  | some q => if q.1 < g ∨ (g = q.1 ∧ (h < q.2.1 ∨ (h = q.2.1 ∧ r < q.2.2))) then some (g, h, r) else some q
section DOORS
variable (lf : Option (Nat × Nat × Nat) → Nat → Nat → Nat → Option (Nat × Nat × Nat)) (P : Nat) (d : Nat → Nat → Nat)
def dF : Nat → Nat → Nat → Nat → Nat → Nat → Option (Nat × Nat × Nat) → Option (Nat × Nat × Nat)
  | 0, _, _, g, h, r, b => lf b g h r
  | n + 1, w, L, g, h, r, b => dF n (w + 1) L g h (10 * r + 9) (fld (fun p b => if L.testBit p = true ∧ d w p < 100000 then dF n (w + 1) (rmv L p) (g + 1) (h + d w p) (10 * r + p) b else b) P b)
end DOORS
def lowD (b : Option (Nat × Nat × Nat)) (lo : Nat) : Prop := ∀ q, b = some q → q.2.2 < lo
theorem doors_eq {P : Nat} {d : Nat → Nat → Nat} (hP : P ≤ 7) : ∀ n w L g h r b, lowD b (r * 10 ^ n) → dF lgM P d n w L g h r b = dF lgC P d n w L g h r b ∧ lowD (dF lgC P d n w L g h r b) ((r + 1) * 10 ^ n) := by
  intro n
  induction n with
  | zero =>
    intro w L g h r b hlo
    show lgM b g h r = lgC b g h r ∧ lowD (lgC b g h r) _
    rw [Nat.pow_zero, Nat.mul_one] at hlo ⊢
    match b, hlo with
    | none, hlo => exact ⟨rfl, fun z hz => by cases hz; show r < r + 1; omega⟩
    | some q, hlo =>
      have h1 := hlo q rfl
      show (if q.1 < g ∨ (g = q.1 ∧ (h < q.2.1 ∨ (h = q.2.1 ∧ r < q.2.2))) then some (g, h, r) else some q) = (if q.1 < g ∨ (g = q.1 ∧ h < q.2.1) then some (g, h, r) else some q) ∧ lowD (if q.1 < g ∨ (g = q.1 ∧ h < q.2.1) then some (g, h, r) else some q) (r + 1)
      by_cases c : q.1 < g ∨ (g = q.1 ∧ h < q.2.1)
      · rw [if_pos (by omega), if_pos c]
        exact ⟨rfl, fun z hz => by cases hz; show r < r + 1; omega⟩
      · rw [if_neg (by omega), if_neg c]
        exact ⟨rfl, fun z hz => by cases hz; omega⟩
  | succ n ih =>
    intro w L g h r b hlo
    show dF lgM P d n (w + 1) L g h (10 * r + 9) (fld (fun p b => if L.testBit p = true ∧ d w p < 100000 then dF lgM P d n (w + 1) (rmv L p) (g + 1) (h + d w p) (10 * r + p) b else b) P b) = dF lgC P d n (w + 1) L g h (10 * r + 9) (fld (fun p b => if L.testBit p = true ∧ d w p < 100000 then dF lgC P d n (w + 1) (rmv L p) (g + 1) (h + d w p) (10 * r + p) b else b) P b) ∧ lowD (dF lgC P d n (w + 1) L g h (10 * r + 9) (fld (fun p b => if L.testBit p = true ∧ d w p < 100000 then dF lgC P d n (w + 1) (rmv L p) (g + 1) (h + d w p) (10 * r + p) b else b) P b)) ((r + 1) * 10 ^ (n + 1))
    have e10 : 10 ^ (n + 1) = 10 * 10 ^ n := by rw [Nat.pow_succ, Nat.mul_comm]
    have key : ∀ k, k ≤ P → fld (fun p b => if L.testBit p = true ∧ d w p < 100000 then dF lgM P d n (w + 1) (rmv L p) (g + 1) (h + d w p) (10 * r + p) b else b) k b = fld (fun p b => if L.testBit p = true ∧ d w p < 100000 then dF lgC P d n (w + 1) (rmv L p) (g + 1) (h + d w p) (10 * r + p) b else b) k b ∧ lowD (fld (fun p b => if L.testBit p = true ∧ d w p < 100000 then dF lgC P d n (w + 1) (rmv L p) (g + 1) (h + d w p) (10 * r + p) b else b) k b) ((10 * r + k) * 10 ^ n) := by
      intro k
      induction k with
      | zero =>
        intro _
        refine ⟨rfl, fun z hz => ?_⟩
        have := hlo z hz
        rw [e10] at this
        rw [Nat.add_zero, Nat.mul_assoc, Nat.mul_left_comm]
        exact this
      | succ k ihk =>
        intro hk
        obtain ⟨i1, i2⟩ := ihk (by omega)
        show (if L.testBit k = true ∧ d w k < 100000 then dF lgM P d n (w + 1) (rmv L k) (g + 1) (h + d w k) (10 * r + k) (fld _ k b) else fld _ k b) = (if L.testBit k = true ∧ d w k < 100000 then dF lgC P d n (w + 1) (rmv L k) (g + 1) (h + d w k) (10 * r + k) (fld _ k b) else fld _ k b) ∧ lowD (if L.testBit k = true ∧ d w k < 100000 then dF lgC P d n (w + 1) (rmv L k) (g + 1) (h + d w k) (10 * r + k) (fld _ k b) else fld _ k b) ((10 * r + (k + 1)) * 10 ^ n)
        rw [i1]
        by_cases c : L.testBit k = true ∧ d w k < 100000
        · rw [if_pos c, if_pos c]
          exact ih _ _ _ _ _ _ i2
        · rw [if_neg c, if_neg c]
          refine ⟨rfl, fun z hz => Nat.lt_of_lt_of_le (i2 z hz) (Nat.mul_le_mul_right _ (by omega))⟩
    obtain ⟨k1, k2⟩ := key P (Nat.le_refl _)
    rw [k1]
    have := ih (w + 1) L g h (10 * r + 9) _ (fun z hz => Nat.lt_of_lt_of_le (k2 z hz) (Nat.mul_le_mul_right _ (show 10 * r + P ≤ 10 * r + 9 by omega)))
    refine ⟨this.1, ?_⟩
    rw [e10, ← Nat.mul_assoc, show (r + 1) * 10 = 10 * r + 9 + 1 by omega]
    exact this.2
def okD (b : Option (Nat × Nat × Nat)) : Prop := ∀ q, b = some q → q.1 ≤ 4 ∧ q.2.1 < 100000 ∧ q.2.2 < 100000000
def dsC (b : Option (Nat × Nat × Nat)) (σ : sgS) : Prop := match b with
  | none => σ.1 330 4 = -1 ∧ σ.1 330 6 = -1
  | some q => σ.1 330 4 = nI q.1 ∧ σ.1 330 5 = nI q.2.1 ∧ σ.1 330 6 = nI q.2.2
def dsM (b : Option (Nat × Nat × Nat)) (τ : sgS) : Prop := match b with
  | none => τ.1 0 46 = -1
  | some q => τ.1 0 48 = nI q.1 ∧ τ.1 0 47 = nI q.2.1 ∧ τ.1 0 46 = nI q.2.2
theorem lg_ok {b : Option (Nat × Nat × Nat)} {g h r : Nat} (hb : okD b) (hg : g ≤ 4) (hh : h < 100000) (hr : r < 100000000) : okD (lgC b g h r) ∧ okD (lgM b g h r) := by
  match b, hb with
  | none, hb => exact ⟨fun q hq => by cases hq; exact ⟨hg, hh, hr⟩, fun q hq => by cases hq; exact ⟨hg, hh, hr⟩⟩
  | some q, hb =>
    constructor
    · show okD (if q.1 < g ∨ (g = q.1 ∧ h < q.2.1) then some (g, h, r) else some q)
      split
      · exact fun z hz => by cases hz; exact ⟨hg, hh, hr⟩
      · exact hb
    · show okD (if q.1 < g ∨ (g = q.1 ∧ (h < q.2.1 ∨ (h = q.2.1 ∧ r < q.2.2))) then some (g, h, r) else some q)
      split
      · exact fun z hz => by cases hz; exact ⟨hg, hh, hr⟩
      · exact hb
def dcl (w L g h r : Nat) : Prop := L < 128 ∧ g ≤ w ∧ h ≤ 3072 * w ∧ r < 10 ^ w
theorem dcl_0 {w L g h r : Nat} (t : dcl w L g h r) : dcl (w + 1) L g h (10 * r + 9) := by
  obtain ⟨t1, t2, t3, t4⟩ := t
  refine ⟨t1, by omega, by omega, ?_⟩
  rw [Nat.pow_succ]; omega
theorem dcl_1 {w L g h r p v : Nat} (t : dcl w L g h r) (hp : p < 7) (hv : v ≤ 3072) : dcl (w + 1) (rmv L p) (g + 1) (h + v) (10 * r + p) := by
  obtain ⟨t1, t2, t3, t4⟩ := t
  refine ⟨rmv_lt (n := 7) t1, by omega, by omega, ?_⟩
  rw [Nat.pow_succ]; omega
theorem doorsC_ok {K : Cty} {H : Nat → Nat} {S : Sta} (okk : okK K) (oH : okH K H) (hs : ∀ w, w < cS K → sP S w < cP K) : ∀ n d w L g h r b σ, w + n = cS K → n < d → CK K σ → CS K S 37 σ → netC K H (sX S) σ → dsC b σ → okD b → dcl w L g h r → ∃ σ', f_X2_goOnDoors d 10000 (nI w) (nI L) (nI g) (nI h) (nI r) σ = some (0, σ') ∧ dsC (dF lgC (cP K) (fun w p => fwW K H (sX S) (sP S w) p) n w L g h r b) σ' ∧ okD (dF lgC (cP K) (fun w p => fwW K H (sX S) (sP S w) p) n w L g h r b) ∧ Fr p330 σ σ' := by
  have hp7 := okk.1
  have hs4 := okk.2.2.1
  intro n
  induction n with
  | zero =>
    intro d w L g h r b σ hw hd hK hS hn hB hb ht
    obtain ⟨d, rfl⟩ : ∃ m, d = m + 1 := ⟨d - 1, by omega⟩
    obtain ⟨t1, t2, t3, t4⟩ := id ht
    have hr8 := pow8 (n := w) (by omega)
    have l1 := (lg_ok (g := g) (h := h) (r := r) hb (by omega) (by omega) (by omega)).1
    show ∃ σ', f_X2_goOnDoors_b 10000 (f_X2_goOnDoors d 10000) (nI w) (nI L) (nI g) (nI h) (nI r) σ = some (0, σ') ∧ dsC (lgC b g h r) σ' ∧ okD (lgC b g h r) ∧ Fr p330 σ σ'
    have set : dsC (some (g, h, r)) (sg_up (sg_up (sg_up σ 330 4 (nI g)) 330 5 (nI h)) 330 6 (nI r)) := ⟨by rw [up_nk (by decide), up_nk (by decide), up_at], by rw [up_nk (by decide), up_at], up_at⟩
    have frm : Fr p330 σ (sg_up (sg_up (sg_up σ 330 4 (nI g)) 330 5 (nI h)) 330 6 (nI r)) := Fr.tr (Fr.tr (Fr.up rfl) (Fr.up rfl)) (Fr.up rfl)
    unfold f_X2_goOnDoors_b f_X2_goOnDoors_b_B36
    rw [hK.2.2.1, if_neg (by rw [nJ_lt (by omega) (by omega)]; omega), pf_eq, pf_eq, pf_eq]
    match b, hB, hb, l1 with
    | none, hB, hb, l1 =>
      rw [hB.1, if_pos (by rw [nJ_neg_lt (by omega)]; trivial)]
      exact ⟨_, rfl, set, l1, frm⟩
    | some q, hB, hb, l1 =>
      have hq := hb q rfl
      have el : lgC (some q) g h r = if q.1 < g ∨ (g = q.1 ∧ h < q.2.1) then some (g, h, r) else some q := rfl
      rw [hB.1, hB.2.1]
      rw [el] at l1 ⊢
      by_cases c1 : q.1 < g
      · rw [if_pos (by rw [nJ_lt (by omega) (by omega)]; exact c1)]
        rw [if_pos (Or.inl c1)] at l1 ⊢
        exact ⟨_, rfl, set, l1, frm⟩
      · rw [if_neg (by rw [nJ_lt (by omega) (by omega)]; exact c1)]
        by_cases c2 : g = q.1
        · rw [if_pos (by rw [c2])]
          by_cases c3 : h < q.2.1
          · rw [if_neg (by rw [nJ_le (by omega) (by omega)]; omega)]
            rw [if_pos (Or.inr ⟨c2, c3⟩)] at l1 ⊢
            exact ⟨_, rfl, set, l1, frm⟩
          · rw [if_pos (by rw [nJ_le (by omega) (by omega)]; omega)]
            rw [if_neg (by omega)] at l1 ⊢
            exact ⟨_, rfl, hB, l1, Fr.rf⟩
        · rw [if_neg (by rw [nJ_eq (by omega) (by omega)]; exact c2)]
          rw [if_neg (by omega)] at l1 ⊢
          exact ⟨_, rfl, hB, l1, Fr.rf⟩
  | succ n ih =>
    intro d w L g h r b σ hw hd hK hS hn hB hb ht
    obtain ⟨d, rfl⟩ : ∃ m, d = m + 1 := ⟨d - 1, by omega⟩
    have hpw := hs w (by omega)
    show ∃ σ', f_X2_goOnDoors_b 10000 (f_X2_goOnDoors d 10000) (nI w) (nI L) (nI g) (nI h) (nI r) σ = some (0, σ') ∧ dsC (dF lgC (cP K) (fun w p => fwW K H (sX S) (sP S w) p) n (w + 1) L g h (10 * r + 9) (fld (fun p b => if L.testBit p = true ∧ fwW K H (sX S) (sP S w) p < 100000 then dF lgC (cP K) (fun w p => fwW K H (sX S) (sP S w) p) n (w + 1) (rmv L p) (g + 1) (h + fwW K H (sX S) (sP S w) p) (10 * r + p) b else b) (cP K) b)) σ' ∧ okD (dF lgC (cP K) (fun w p => fwW K H (sX S) (sP S w) p) n (w + 1) L g h (10 * r + 9) (fld (fun p b => if L.testBit p = true ∧ fwW K H (sX S) (sP S w) p < 100000 then dF lgC (cP K) (fun w p => fwW K H (sX S) (sP S w) p) n (w + 1) (rmv L p) (g + 1) (h + fwW K H (sX S) (sP S w) p) (10 * r + p) b else b) (cP K) b)) ∧ Fr p330 σ σ'
    unfold f_X2_goOnDoors_b
    rw [hK.2.2.1, if_pos (by rw [nJ_lt (by omega) (by omega)]; omega), ld_ok (by omega) (by decide), hS.1 w (by omega)]
    have kp : ∀ {s}, Fr p330 σ s → CK K s ∧ CS K S 37 s ∧ netC K H (sX S) s := fun {s} f => ⟨CK_fr hK (fun j a b => funext fun q => f j q (by unfold p330; omega)), CS_congr (fun i hi => funext fun q => f _ q (by unfold p330; omega)) hS, netC_fr hn okk f⟩
    obtain ⟨σ1, e, g1, g2, g3⟩ := lp_st (b := fun x : sgS × Int32 => f_X2_goOnDoors_b_L68 10000 (f_X2_goOnDoors d 10000) (nI w) (nI L) (nI g) (nI h) (nI r) (nI (sP S w)) x.2 x.1) (n := cP K) (fun k s => dsC (fld (fun p b => if L.testBit p = true ∧ fwW K H (sX S) (sP S w) p < 100000 then dF lgC (cP K) (fun w p => fwW K H (sX S) (sP S w) p) n (w + 1) (rmv L p) (g + 1) (h + fwW K H (sX S) (sP S w) p) (10 * r + p) b else b) k b) s ∧ okD (fld (fun p b => if L.testBit p = true ∧ fwW K H (sX S) (sP S w) p < 100000 then dF lgC (cP K) (fun w p => fwW K H (sX S) (sP S w) p) n (w + 1) (rmv L p) (g + 1) (h + fwW K H (sX S) (sP S w) p) (10 * r + p) b else b) k b) ∧ Fr p330 σ s) (by
      rintro k s hk ⟨g1, g2, g3⟩
      obtain ⟨K1, S1, n1⟩ := kp g3
      have bk := fwW_bd (X := sX S) (i := sP S w) (j := k) okk oH
      show ∃ σ', f_X2_goOnDoors_b_L68 10000 (f_X2_goOnDoors d 10000) (nI w) (nI L) (nI g) (nI h) (nI r) (nI (sP S w)) (nI k) s = _ ∧ dsC (if L.testBit k = true ∧ fwW K H (sX S) (sP S w) k < 100000 then dF lgC (cP K) (fun w p => fwW K H (sX S) (sP S w) p) n (w + 1) (rmv L k) (g + 1) (h + fwW K H (sX S) (sP S w) k) (10 * r + k) (fld _ k b) else fld _ k b) σ' ∧ okD (if L.testBit k = true ∧ fwW K H (sX S) (sP S w) k < 100000 then dF lgC (cP K) (fun w p => fwW K H (sX S) (sP S w) p) n (w + 1) (rmv L k) (g + 1) (h + fwW K H (sX S) (sP S w) k) (10 * r + k) (fld _ k b) else fld _ k b) ∧ _
      unfold f_X2_goOnDoors_b_L68
      rw [K1.1, if_neg (by rw [nJ_le (by omega) (by omega)]; omega), shr_nI (by omega)]
      by_cases c1 : L.testBit k = true
      · rw [if_neg (by rw [if_pos c1]; decide), reaches_ok okk n1 hpw hk, cr_some]
        by_cases c2 : fwW K H (sX S) (sP S w) k < 100000
        · obtain ⟨s', e, q1, q2, q3⟩ := ih d (w + 1) (rmv L k) (g + 1) (h + fwW K H (sX S) (sP S w) k) (10 * r + k) _ s (by omega) (by omega) K1 S1 n1 g1 g2 (dcl_1 ht (by omega) (by omega))
          rw [if_pos c2, if_neg nn10, rf_ok (by omega) (by decide), ld_ok (by omega) (by decide), (n1.1 _ k hpw hk).2, fwC_lt c2, shl_1 (by omega), and_not, nJ_add, nJ_mulL, nJ_add, Nat.mul_comm r 10, nJ_addL, nJ_addL, nJ_addL]
          have e : f_X2_goOnDoors d 10000 (nI (w + 1)) (nI (L &&& (L ^^^ 2 ^ k))) (nI (g + 1)) (nI (h + fwW K H (sX S) (sP S w) k)) (nI (10 * r + k)) s = some (0, s') := e
          rw [e, cl_some, if_pos ⟨c1, c2⟩]
          exact ⟨s', rfl, q1, q2, g3.tr q3⟩
        · rw [if_neg c2, if_pos rfl, if_neg (fun h => c2 h.2), nJ_addL]
          exact ⟨s, rfl, g1, g2, g3⟩
      · rw [if_pos (by rw [if_neg c1]), if_neg (fun h => c1 h.1), nJ_addL]
        exact ⟨s, rfl, g1, g2, g3⟩) (by
      rintro s ⟨g1, g2, g3⟩
      obtain ⟨K1, S1, n1⟩ := kp g3
      show f_X2_goOnDoors_b_L68 10000 (f_X2_goOnDoors d 10000) (nI w) (nI L) (nI g) (nI h) (nI r) (nI (sP S w)) (nI (cP K)) s = _
      unfold f_X2_goOnDoors_b_L68
      rw [K1.1, if_pos (by rw [nJ_le (by omega) (by omega)]; omega)]) 10000 0 σ (by omega) (by omega) ⟨hB, hb, Fr.rf⟩
    have e : sg_lp (fun x : sgS × Int32 => f_X2_goOnDoors_b_L68 10000 (f_X2_goOnDoors d 10000) (nI w) (nI L) (nI g) (nI h) (nI r) (nI (sP S w)) x.2 x.1) 10000 ((σ, 0)) = _ := e
    obtain ⟨K1, S1, n1⟩ := kp g3
    obtain ⟨σ2, e2, q1, q2, q3⟩ := ih d (w + 1) L g h (10 * r + 9) _ σ1 (by omega) (by omega) K1 S1 n1 g1 g2 (dcl_0 ht)
    rw [e, lb_inr, nJ_addL, nJ_mulL, nJ_addL, Nat.mul_comm r 10, e2, cl_some]
    exact ⟨σ2, rfl, q1, q2, g3.tr q3⟩
theorem doorsM_ok {K : Cty} {H : Nat → Nat} {S : Sta} (okk : okK K) (oH : okH K H) (hs : ∀ w, w < cS K → sP S w < cP K) : ∀ n d w L g h r b τ, w + n = cS K → n < d → MK K τ → MS K S (τ.1 21) → netM K H (sX S) τ → dsM b τ → okD b → dcl w L g h r → ∃ τ', f_X12_tryDoors d 10000 (nI w) (nI L) (nI r) (nI g) (nI h) τ = some (0, τ') ∧ dsM (dF lgM (cP K) (fun w p => fwW K H (sX S) (sP S w) p) n w L g h r b) τ' ∧ okD (dF lgM (cP K) (fun w p => fwW K H (sX S) (sP S w) p) n w L g h r b) ∧ Fr p0b τ τ' := by
  have hp7 := okk.1
  have hs4 := okk.2.2.1
  intro n
  induction n with
  | zero =>
    intro d w L g h r b τ hw hd hK hS hn hB hb ht
    obtain ⟨d, rfl⟩ : ∃ m, d = m + 1 := ⟨d - 1, by omega⟩
    obtain ⟨t1, t2, t3, t4⟩ := id ht
    have hr8 := pow8 (n := w) (by omega)
    have l1 := (lg_ok (g := g) (h := h) (r := r) hb (by omega) (by omega) (by omega)).2
    show ∃ τ', f_X12_tryDoors_b 10000 (f_X12_tryDoors d 10000) (nI w) (nI L) (nI r) (nI g) (nI h) τ = some (0, τ') ∧ dsM (lgM b g h r) τ' ∧ okD (lgM b g h r) ∧ Fr p0b τ τ'
    have set : dsM (some (g, h, r)) (sg_up (sg_up (sg_up τ 0 46 (nI r)) 0 48 (nI g)) 0 47 (nI h)) := ⟨by rw [up_nk (by decide), up_at], up_at, by rw [up_nk (by decide), up_nk (by decide), up_at]⟩
    have frm : Fr p0b τ (sg_up (sg_up (sg_up τ 0 46 (nI r)) 0 48 (nI g)) 0 47 (nI h)) := Fr.tr (Fr.tr (Fr.up ⟨rfl, Or.inl rfl⟩) (Fr.up ⟨rfl, Or.inr (Or.inr rfl)⟩)) (Fr.up ⟨rfl, Or.inr (Or.inl rfl)⟩)
    unfold f_X12_tryDoors_b f_X12_tryDoors_b_B30 f_X12_tryDoors_b_B72
    rw [hK.2.2.1, if_pos (by rw [show w = cS K by omega]), pf_eq, pf_eq, pf_eq]
    match b, hB, hb, l1 with
    | none, hB, hb, l1 =>
      have hB : τ.1 0 46 = -1 := hB
      rw [hB, if_pos rfl, if_neg nn10]
      exact ⟨_, rfl, set, l1, frm⟩
    | some q, hB, hb, l1 =>
      have hq := hb q rfl
      have el : lgM (some q) g h r = if q.1 < g ∨ (g = q.1 ∧ (h < q.2.1 ∨ (h = q.2.1 ∧ r < q.2.2))) then some (g, h, r) else some q := rfl
      rw [hB.1, hB.2.1, hB.2.2, if_neg (by rw [nJ_ne_neg (by omega)]; exact id)]
      rw [el] at l1 ⊢
      by_cases c1 : q.1 < g
      · rw [if_neg (by rw [nJ_le (by omega) (by omega)]; omega), if_neg nn10]
        rw [if_pos (Or.inl c1)] at l1 ⊢
        exact ⟨_, rfl, set, l1, frm⟩
      · rw [if_pos (by rw [nJ_le (by omega) (by omega)]; omega), if_pos rfl]
        by_cases c2 : g = q.1
        · rw [if_pos (by rw [c2])]
          by_cases c3 : h < q.2.1
          · rw [if_pos (by rw [nJ_lt (by omega) (by omega)]; exact c3)]
            rw [if_pos (Or.inr ⟨c2, Or.inl c3⟩)] at l1 ⊢
            exact ⟨_, rfl, set, l1, frm⟩
          · rw [if_neg (by rw [nJ_lt (by omega) (by omega)]; exact c3)]
            by_cases c4 : h = q.2.1
            · rw [if_pos (by rw [c4])]
              by_cases c5 : r < q.2.2
              · rw [if_neg (by rw [nJ_le (by omega) (by omega)]; omega)]
                rw [if_pos (Or.inr ⟨c2, Or.inr ⟨c4, c5⟩⟩)] at l1 ⊢
                exact ⟨_, rfl, set, l1, frm⟩
              · rw [if_pos (by rw [nJ_le (by omega) (by omega)]; omega)]
                rw [if_neg (by omega)] at l1 ⊢
                exact ⟨_, rfl, hB, l1, Fr.rf⟩
            · rw [if_neg (by rw [nJ_eq (by omega) (by omega)]; exact c4)]
              rw [if_neg (by omega)] at l1 ⊢
              exact ⟨_, rfl, hB, l1, Fr.rf⟩
        · rw [if_neg (by rw [nJ_eq (by omega) (by omega)]; exact c2)]
          rw [if_neg (by omega)] at l1 ⊢
          exact ⟨_, rfl, hB, l1, Fr.rf⟩
  | succ n ih =>
    intro d w L g h r b τ hw hd hK hS hn hB hb ht
    obtain ⟨d, rfl⟩ : ∃ m, d = m + 1 := ⟨d - 1, by omega⟩
    have hpw := hs w (by omega)
    show ∃ τ', f_X12_tryDoors_b 10000 (f_X12_tryDoors d 10000) (nI w) (nI L) (nI r) (nI g) (nI h) τ = some (0, τ') ∧ dsM (dF lgM (cP K) (fun w p => fwW K H (sX S) (sP S w) p) n (w + 1) L g h (10 * r + 9) (fld (fun p b => if L.testBit p = true ∧ fwW K H (sX S) (sP S w) p < 100000 then dF lgM (cP K) (fun w p => fwW K H (sX S) (sP S w) p) n (w + 1) (rmv L p) (g + 1) (h + fwW K H (sX S) (sP S w) p) (10 * r + p) b else b) (cP K) b)) τ' ∧ okD (dF lgM (cP K) (fun w p => fwW K H (sX S) (sP S w) p) n (w + 1) L g h (10 * r + 9) (fld (fun p b => if L.testBit p = true ∧ fwW K H (sX S) (sP S w) p < 100000 then dF lgM (cP K) (fun w p => fwW K H (sX S) (sP S w) p) n (w + 1) (rmv L p) (g + 1) (h + fwW K H (sX S) (sP S w) p) (10 * r + p) b else b) (cP K) b)) ∧ Fr p0b τ τ'
    unfold f_X12_tryDoors_b
    rw [hK.2.2.1, if_neg (by rw [nJ_eq (by omega) (by omega)]; omega)]
    have kp : ∀ {s}, Fr p0b τ s → MK K s ∧ MS K S (s.1 21) ∧ netM K H (sX S) s := fun {s} f => ⟨MK_fr hK (fun j a b => funext fun q => f j q (by unfold p0b; omega)) (fun q a b => f 0 q (by unfold p0b; omega)), by rw [show s.1 21 = τ.1 21 from funext fun q => f 21 q (by unfold p0b; omega)]; exact hS, netM_fr hn f⟩
    obtain ⟨τ1, e, g1, g2, g3⟩ := lp_st (b := fun x : sgS × Int32 => f_X12_tryDoors_b_L93 10000 (f_X12_tryDoors d 10000) (nI w) (nI L) (nI r) (nI g) (nI h) x.2 x.1) (n := cP K) (fun k s => dsM (fld (fun p b => if L.testBit p = true ∧ fwW K H (sX S) (sP S w) p < 100000 then dF lgM (cP K) (fun w p => fwW K H (sX S) (sP S w) p) n (w + 1) (rmv L p) (g + 1) (h + fwW K H (sX S) (sP S w) p) (10 * r + p) b else b) k b) s ∧ okD (fld (fun p b => if L.testBit p = true ∧ fwW K H (sX S) (sP S w) p < 100000 then dF lgM (cP K) (fun w p => fwW K H (sX S) (sP S w) p) n (w + 1) (rmv L p) (g + 1) (h + fwW K H (sX S) (sP S w) p) (10 * r + p) b else b) k b) ∧ Fr p0b τ s) (by
      rintro k s hk ⟨g1, g2, g3⟩
      obtain ⟨K1, S1, n1⟩ := kp g3
      have bk := fwW_bd (X := sX S) (i := sP S w) (j := k) okk oH
      show ∃ σ', f_X12_tryDoors_b_L93 10000 (f_X12_tryDoors d 10000) (nI w) (nI L) (nI r) (nI g) (nI h) (nI k) s = _ ∧ dsM (if L.testBit k = true ∧ fwW K H (sX S) (sP S w) k < 100000 then dF lgM (cP K) (fun w p => fwW K H (sX S) (sP S w) p) n (w + 1) (rmv L k) (g + 1) (h + fwW K H (sX S) (sP S w) k) (10 * r + k) (fld _ k b) else fld _ k b) σ' ∧ okD (if L.testBit k = true ∧ fwW K H (sX S) (sP S w) k < 100000 then dF lgM (cP K) (fun w p => fwW K H (sX S) (sP S w) p) n (w + 1) (rmv L k) (g + 1) (h + fwW K H (sX S) (sP S w) k) (10 * r + k) (fld _ k b) else fld _ k b) ∧ _
      unfold f_X12_tryDoors_b_L93
      rw [K1.1, if_neg (by rw [nJ_le (by omega) (by omega)]; omega), nJ_Ladd, Nat.zero_add, ld_ok (by omega) (by decide), S1.1 w (by omega), awayOf_ok n1 (by omega) (by omega), cr_some, has_nI (by omega), cr_some]
      by_cases c1 : L.testBit k = true
      · rw [if_neg (by rw [if_pos c1]; decide)]
        by_cases c2 : fwW K H (sX S) (sP S w) k < 100000
        · obtain ⟨s', e, q1, q2, q3⟩ := ih d (w + 1) (rmv L k) (g + 1) (h + fwW K H (sX S) (sP S w) k) (10 * r + k) _ s (by omega) (by omega) K1 S1 n1 g1 g2 (dcl_1 ht (by omega) (by omega))
          rw [if_neg (by rw [nJ_Lle (by omega) (by decide)]; omega), shl_1 (by omega), and_not, nJ_add, nJ_Lmul, nJ_add, nJ_addL, nJ_addL, nJ_addL]
          have e : f_X12_tryDoors d 10000 (nI (w + 1)) (nI (L &&& (L ^^^ 2 ^ k))) (nI (10 * r + k)) (nI (g + 1)) (nI (h + fwW K H (sX S) (sP S w) k)) s = some (0, s') := e
          rw [e, cl_some, if_pos ⟨c1, c2⟩]
          exact ⟨s', rfl, q1, q2, g3.tr q3⟩
        · rw [if_pos (by rw [nJ_Lle (by omega) (by decide)]; omega), if_neg (fun h => c2 h.2), nJ_addL]
          exact ⟨s, rfl, g1, g2, g3⟩
      · rw [if_pos (by rw [if_neg c1]), if_neg (fun h => c1 h.1), nJ_addL]
        exact ⟨s, rfl, g1, g2, g3⟩) (by
      rintro s ⟨g1, g2, g3⟩
      obtain ⟨K1, S1, n1⟩ := kp g3
      show f_X12_tryDoors_b_L93 10000 (f_X12_tryDoors d 10000) (nI w) (nI L) (nI r) (nI g) (nI h) (nI (cP K)) s = _
      unfold f_X12_tryDoors_b_L93
      rw [K1.1, if_pos (by rw [nJ_le (by omega) (by omega)]; omega)]) 10000 0 τ (by omega) (by omega) ⟨hB, hb, Fr.rf⟩
    have e : sg_lp (fun x : sgS × Int32 => f_X12_tryDoors_b_L93 10000 (f_X12_tryDoors d 10000) (nI w) (nI L) (nI r) (nI g) (nI h) x.2 x.1) 10000 ((τ, 0)) = _ := e
    obtain ⟨K1, S1, n1⟩ := kp g3
    obtain ⟨τ2, e2, q1, q2, q3⟩ := ih d (w + 1) L g h (10 * r + 9) _ τ1 (by omega) (by omega) K1 S1 n1 g1 g2 (dcl_0 ht)
    rw [e, lb_inr, nJ_addL, nJ_Lmul, nJ_addL, e2, cl_some]
    exact ⟨τ2, rfl, q1, q2, g3.tr q3⟩
theorem dF_some {lf : Option (Nat × Nat × Nat) → Nat → Nat → Nat → Option (Nat × Nat × Nat)} (hl : ∀ b g h r, lf b g h r ≠ none) {P : Nat} {d : Nat → Nat → Nat} : ∀ n w L g h r b, dF lf P d n w L g h r b ≠ none := by
  intro n
  induction n with
  | zero => intro w L g h r b; exact hl _ _ _ _
  | succ n ih => intro w L g h r b; exact ih _ _ _ _ _ _
theorem lw_O30_ok : lw_O30 Rel := by
  intro a1 a2
  refine q_eq (fun A σ τ ok C M => ⟨10000, 10000, ?_⟩)
  have hp7 : cP (aK A) ≤ 7 := ok.2.1.1
  have hs4 := ok.2.1.2.2.1
  have eC := C.2.1
  have eM := M.2.1
  have hpw : 2 ^ cP (aK A) ≤ 128 := Nat.pow_le_pow_right (n := 2) (by decide) hp7
  unfold f_X11_doors f_X12_doors
  rcases rng1 a1 (2 ^ cP (aK A) - 1) (by omega) with ⟨L, hL1, hL2, rfl⟩ | h
  · have h0 : cP (aK A) ≠ 0 := by
      intro h0
      rw [h0] at hL2
      have : 2 ^ 0 - 1 = 0 := rfl
      omega
    obtain ⟨s1, s2⟩ := some_y (N := 10000) eC.1 eM.1 hp7 h0 hL1 (show L < 2 ^ cP (aK A) by omega)
    rw [s1, s2, cr_some, cr_some, if_neg nn10, if_neg nn10]
    have oS := ok.2.2.2.2.2.1 h0
    have done : ∃ q : Nat × Nat × Nat, ∃ σ1 τ1 σ2 τ2, f_X5_measure 10000 37 σ = some (0, σ1) ∧ f_X12_layAway 10000 τ = some (0, τ1) ∧ f_X2_findDoors 10000 (nI L) σ1 = some (0, σ2) ∧ f_X12_tryDoors 40 10000 0 (nI L) 0 0 0 (sg_up τ1 0 46 (-1)) = some (0, τ2) ∧ σ2.1 330 6 = nI q.2.2 ∧ σ2.1 330 5 = nI q.2.1 ∧ τ2.1 0 46 = nI q.2.2 ∧ τ2.1 0 47 = nI q.2.1 ∧ Fr scC σ σ2 ∧ Fr scM τ τ2 := by
      obtain ⟨H, σ1, τ1, e1, e2, ⟨oH, k1, k2, k3, k4, k5, k6⟩, f1, f2⟩ := net2 ok C M h0
      have hb0 : okD none := fun q hq => by cases hq
      have tc : dcl 0 L 0 0 0 := ⟨by omega, Nat.le_refl _, Nat.zero_le _, by decide⟩
      have K3 : CK (aK A) (sg_up (sg_up (sg_up σ1 330 4 (-1)) 330 5 0) 330 6 (-1)) := CK_fr k1 (fun j a b => by rw [up_ne (by omega), up_ne (by omega), up_ne (by omega)])
      have fr3 : Fr p330 σ1 (sg_up (sg_up (sg_up σ1 330 4 (-1)) 330 5 0) 330 6 (-1)) := Fr.tr (Fr.tr (Fr.up rfl) (Fr.up rfl)) (Fr.up rfl)
      have C3 : CS (aK A) (aS A) 37 (sg_up (sg_up (sg_up σ1 330 4 (-1)) 330 5 0) 330 6 (-1)) := CS_congr (fun i hi => by rw [up_ne (by omega), up_ne (by omega), up_ne (by omega)]) k2
      have S3 : dsC none (sg_up (sg_up (sg_up σ1 330 4 (-1)) 330 5 0) 330 6 (-1)) := ⟨by rw [up_nk (by decide), up_nk (by decide), up_at], up_at⟩
      have hsp : ∀ w, w < cS (aK A) → sP (aS A) w < cP (aK A) := fun w hw => (oS.1 w hw).1
      obtain ⟨σ2, g1, g2, g3, g4⟩ := doorsC_ok ok.2.1 oH hsp (cS (aK A)) 40 0 L 0 0 0 none _ (by omega) (by omega) K3 C3 (netC_fr k3 ok.2.1 fr3) S3 hb0 tc
      have fr4 : Fr p0b τ1 (sg_up τ1 0 46 (-1)) := Fr.up ⟨rfl, Or.inl rfl⟩
      have K4 : MK (aK A) (sg_up τ1 0 46 (-1)) := MK_fr k4 (fun j a b => by rw [up_ne (by omega)]) (fun q a b => by rw [up_nk (by omega)])
      obtain ⟨τ2, j1, j2, j3, j4⟩ := doorsM_ok ok.2.1 oH hsp (cS (aK A)) 40 0 L 0 0 0 none _ (by omega) (by omega) K4 (by rw [up_ne (by decide)]; exact k5) (netM_fr k6 fr4) (show dsM none _ from up_at) hb0 tc
      rw [(doors_eq hp7 (cS (aK A)) 0 L 0 0 0 none (fun q hq => by cases hq)).1] at j2 j3
      have hne := dF_some (lf := lgC) (fun b g h r => by
        match b with
        | none => exact fun h => by cases h
        | some q =>
          show (if q.1 < g ∨ (g = q.1 ∧ h < q.2.1) then some (g, h, r) else some q) ≠ none
          split <;> exact fun h => by cases h) (P := cP (aK A)) (d := fun w p => fwW (aK A) H (sX (aS A)) (sP (aS A) w) p) (cS (aK A)) 0 L 0 0 0 none
      generalize dF lgC (cP (aK A)) (fun w p => fwW (aK A) H (sX (aS A)) (sP (aS A) w) p) (cS (aK A)) 0 L 0 0 0 none = b at g2 g3 j2 j3 hne
      match b, g2, g3, j2, hne with
      | none, _, _, _, hne => exact absurd rfl hne
      | some q, g2, g3, j2, _ =>
        refine ⟨q, σ1, τ1, σ2, τ2, e1, e2, ?_, j1, g2.2.2, g2.2.1, j2.2.2, j2.2.1, f1.tr ((fr3.tr g4).mono (fun j k h => by unfold p330 at h; unfold scC; omega)), f2.tr ((fr4.tr j4).mono (fun j k h => by unfold p0b at h; unfold scM; omega))⟩
        unfold f_X2_findDoors
        rw [pf_eq, pf_eq, pf_eq, show f_X2_goOnDoors 40 10000 0 (nI L) 0 0 0 _ = _ from g1, cl_some]
    obtain ⟨q, σ1, τ1, σ2, τ2, d1, d2, d3, d4, d5, d6, d7, d8, d9, d10⟩ := done
    by_cases c0 : a2 = 0
    · subst c0
      rw [in01_0, cr_some, if_neg nn10, if_neg (by decide), if_pos (by decide), d1, d2, cl_some, cl_some, pf_eq, d3, d4, cl_some, cl_some, if_pos rfl, if_pos rfl, d5, d7]
      exact ⟨_, _, _, rfl, rfl, d9, d10⟩
    · by_cases c1 : a2 = 1
      · subst c1
        rw [in01_1, cr_some, if_neg nn10, if_neg (by decide), if_pos (by decide), d1, d2, cl_some, cl_some, pf_eq, d3, d4, cl_some, cl_some, if_neg nn10, if_neg nn10, d6, d8]
        exact ⟨_, _, _, rfl, rfl, d9, d10⟩
      · have h5 := not01 c0 c1
        rw [in01_n h5, cr_some, if_pos rfl]
        by_cases h6 : a2 < 0
        · rw [if_pos h6]
          exact ⟨_, _, _, rfl, rfl, Fr.rf, Fr.rf⟩
        · have h7 : ¬ a2 ≤ 1 := by
            rcases nJ_cases a2 with hx | ⟨q, hq, rfl⟩
            · exact absurd hx h6
            · have := h5.resolve_left h6
              rw [nJ_le (by decide) hq] at this
              rw [nJ_1, nJ_le hq (by decide)]; omega
          rw [if_neg h6, if_neg h7]
          exact ⟨_, _, _, rfl, rfl, Fr.rf, Fr.rf⟩
  · obtain ⟨s1, s2⟩ := some_n (N := 10000) eC.1 eM.1 hp7 h
    rw [s1, s2]
    exact ⟨_, _, _, rfl, rfl, Fr.rf, Fr.rf⟩
