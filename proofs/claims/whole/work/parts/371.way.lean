/-! A WAY -/
def wyF (T : Nat × (Nat → Nat)) : Nat → Nat → Nat → (Nat → Nat) → Nat × Nat × (Nat → Nat)
  | 0, a, k, d => (skp T a, k, d)
  | f + 1, a, k, d => if dgt T (skp T a) = true ∧ k < 12 then wyF T f (skp T a + 1) (k + 1) (fun i => if i = k then T.2 (skp T a) - 48 else d i) else (skp T a, k, d)
def wyR (T : Nat × (Nat → Nat)) : Nat × Nat × (Nat → Nat) := wyF T 13 0 0 (fun _ => 0)
/-- whether it is one -/
def wyG (T : Nat × (Nat → Nat)) : Bool := decide (T.1 ≤ (wyR T).1 ∧ 2 ≤ (wyR T).2.1)
theorem wyF_ok {T : Nat × (Nat → Nat)} : ∀ f a k d, f + k = 13 → a ≤ T.1 → (∀ i, i < k → d i ≤ 9) → (wyF T f a k d).1 ≤ T.1 ∧ (wyF T f a k d).2.1 ≤ 12 ∨ k = 13 := by
  intro f
  induction f with
  | zero => intro a k d h; exact fun _ _ => Or.inr (by omega)
  | succ f ih =>
    intro a k d h ha hd
    left
    show (if dgt T (skp T a) = true ∧ k < 12 then wyF T f (skp T a + 1) (k + 1) (fun i => if i = k then T.2 (skp T a) - 48 else d i) else (skp T a, k, d)).1 ≤ T.1 ∧ (if dgt T (skp T a) = true ∧ k < 12 then wyF T f (skp T a + 1) (k + 1) (fun i => if i = k then T.2 (skp T a) - 48 else d i) else (skp T a, k, d)).2.1 ≤ 12
    by_cases c : dgt T (skp T a) = true ∧ k < 12
    · rw [if_pos c]
      have hl := dgt_lt c.1
      rcases ih (skp T a + 1) (k + 1) (fun i => if i = k then T.2 (skp T a) - 48 else d i) (by omega) (by omega) (fun i hi => by
        show (if i = k then T.2 (skp T a) - 48 else d i) ≤ 9
        by_cases ci : i = k
        · rw [if_pos ci]; omega
        · rw [if_neg ci]; exact hd i (by omega)) with h1 | h1
      · exact h1
      · omega
    · rw [if_neg c]
      exact ⟨skp_le ha, by show k ≤ 12; omega⟩
theorem wyF_dig {T : Nat × (Nat → Nat)} : ∀ f a k d, (∀ i, i < k → d i ≤ 9) → ∀ i, i < (wyF T f a k d).2.1 → (wyF T f a k d).2.2 i ≤ 9 := by
  intro f
  induction f with
  | zero => intro a k d hd; exact hd
  | succ f ih =>
    intro a k d hd
    show ∀ i, i < (if dgt T (skp T a) = true ∧ k < 12 then wyF T f (skp T a + 1) (k + 1) (fun i => if i = k then T.2 (skp T a) - 48 else d i) else (skp T a, k, d)).2.1 → (if dgt T (skp T a) = true ∧ k < 12 then wyF T f (skp T a + 1) (k + 1) (fun i => if i = k then T.2 (skp T a) - 48 else d i) else (skp T a, k, d)).2.2 i ≤ 9
    by_cases c : dgt T (skp T a) = true ∧ k < 12
    · rw [if_pos c]
      have hl := dgt_lt c.1
      exact ih _ _ _ (fun i hi => by
        show (if i = k then T.2 (skp T a) - 48 else d i) ≤ 9
        by_cases ci : i = k
        · rw [if_pos ci]; omega
        · rw [if_neg ci]; exact hd i (by omega))
    · rw [if_neg c]; exact hd
def pWc (j k : Nat) : Prop := (j = 1 ∧ k = 2) ∨ (j = 29 ∧ k = 3) ∨ j = 36
theorem wayC_lp {T : Nat × (Nat → Nat)} (o : okT T) : ∀ f a k d M σ, f + k = 13 → f < M → a ≤ T.1 → tqC T σ → σ.1 1 2 = nI a → σ.1 29 3 = nI k → (∀ i, i < k → σ.1 36 i = nI (d i)) → k ≤ 12 → ∃ σ', sg_lp (fun x : sgS × Int32 => f_X10_readFrom_L12 10000 x.2 x.1) M ((σ, nI k)) = some (.inl ((if T.1 ≤ (wyF T f a k d).1 ∧ 2 ≤ (wyF T f a k d).2.1 then 1 else 0), σ')) ∧ σ'.1 1 2 = nI (wyF T f a k d).1 ∧ σ'.1 29 3 = nI (wyF T f a k d).2.1 ∧ (∀ i, i < (wyF T f a k d).2.1 → σ'.1 36 i = nI ((wyF T f a k d).2.2 i)) ∧ Fr pWc σ σ' := by
  have h240 := o.1
  intro f
  induction f with
  | zero => intro a k d M σ h1 _ _ _ _ _ _ h2; omega
  | succ f ih =>
    intro a k d M σ h1 hM ha hT e2 e3 hd hk
    obtain ⟨M, rfl⟩ : ∃ m, M = m + 1 := ⟨M - 1, by omega⟩
    obtain ⟨σ1, s1, s2, s3, s4⟩ := sign_ok o (by omega) hT e2
    have hs := skp_le ha
    have e3' : σ1.1 29 3 = nI k := by rw [s4 29 3 (by unfold pt; omega)]; exact e3
    have hd' : ∀ i, i < k → σ1.1 36 i = nI (d i) := fun i hi => by rw [s4 36 i (by unfold pt; omega)]; exact hd i hi
    have f1 : Fr pWc σ σ1 := s4.mono (fun j k h => Or.inl h)
    have eW : wyF T (f + 1) a k d = if dgt T (skp T a) = true ∧ k < 12 then wyF T f (skp T a + 1) (k + 1) (fun i => if i = k then T.2 (skp T a) - 48 else d i) else (skp T a, k, d) := rfl
    by_cases cE : T.1 ≤ skp T a
    · have nd : dgt T (skp T a) = false := by unfold dgt; exact decide_eq_false (by omega)
      rw [eW, if_neg (show ¬ (dgt T (skp T a) = true ∧ k < 12) from fun h => by rw [nd] at h; exact absurd h.1 (by decide))]
      refine ⟨σ1, ?_, s2, e3', hd', f1⟩
      rw [lp_ret (r := ((if T.1 ≤ skp T a ∧ 2 ≤ k then 1 else 0), σ1))]
      show f_X10_readFrom_L12 10000 (nI k) σ = _
      unfold f_X10_readFrom_L12
      rw [if_neg (by rw [nJ_Lle (by omega) (by decide)]; omega), s1, cl_some, if_pos ((chr_end o).mpr cE), e3']
      by_cases c2 : k < 2
      · rw [if_pos (by rw [nJ_ltL (by omega) (by decide)]; exact c2), if_neg (by omega)]; rfl
      · rw [if_neg (by rw [nJ_ltL (by omega) (by decide)]; exact c2), if_pos (by omega)]; rfl
    · have hlt : skp T a < T.1 := by omega
      have hb := o.2 _ hlt
      have ne : ¬ chr T (skp T a) = -1 := fun h => cE ((chr_end o).mp h)
      have top : f_X10_readFrom_L12 10000 (nI k) σ = (if (if dgt T (skp T a) then (1 : Int32) else 0) = 0 then some (.inl (vp_nar .boolean 0, σ1)) else if nI k < 12 then (sg_st σ1 36 12 (nI k) (nI (T.2 (skp T a)) - 48) fun s6 => sg_pf s6 29 3 ((s6.1 29 3) + 1) fun s7 => sg_pf s7 1 2 ((s7.1 1 2) + 1) fun s8 => some (.inr (.inl (s8, nI (k + 1))))) else some (.inl (vp_nar .boolean 0, σ1))) := by
        unfold f_X10_readFrom_L12
        rw [if_neg (by rw [nJ_Lle (by omega) (by decide)]; omega), s1, cl_some, if_neg ne, dig_C o, cr_some, e3', chr_y hlt, nJ_addL]
      by_cases c : dgt T (skp T a) = true ∧ k < 12
      · have hl := dgt_lt c.1
        rw [c.1, show (if true = true then (1 : Int32) else 0) = 1 from rfl, if_neg nn10, if_pos (by rw [nJ_ltL (by omega) (by decide)]; exact c.2), st_ok (by omega) (by decide), pf_eq, pf_eq, nJ_subL (by omega), up_ne (by decide), e3', up_ne (by decide), up_ne (by decide), s2, nJ_addL, nJ_addL] at top
        rw [eW, if_pos c]
        have F2 : Fr pWc σ1 (sg_up (sg_up (sg_up σ1 36 k (nI (T.2 (skp T a) - 48))) 29 3 (nI (k + 1))) 1 2 (nI (skp T a + 1))) := Fr.tr (Fr.tr (Fr.up (Or.inr (Or.inr rfl))) (Fr.up (Or.inr (Or.inl ⟨rfl, rfl⟩)))) (Fr.up (Or.inl ⟨rfl, rfl⟩))
        obtain ⟨σ', q1, q2, q3, q4, q5⟩ := ih (skp T a + 1) (k + 1) (fun i => if i = k then T.2 (skp T a) - 48 else d i) M (sg_up (sg_up (sg_up σ1 36 k (nI (T.2 (skp T a) - 48))) 29 3 (nI (k + 1))) 1 2 (nI (skp T a + 1))) (by omega) (by omega) (by omega) (tqC_fr s3 F2 (by unfold pWc; omega) (fun q => by unfold pWc; omega)) up_at (by rw [up_ne (by decide), up_at]) (fun i hi => by
          rw [up_ne (by decide), up_ne (by decide)]
          show _ = nI (if i = k then T.2 (skp T a) - 48 else d i)
          by_cases ci : i = k
          · rw [if_pos ci, ci, up_at]
          · rw [if_neg ci, up_nk ci]; exact hd' i (by omega)) (by omega)
        refine ⟨σ', ?_, q2, q3, q4, (f1.tr F2).tr q5⟩
        rw [lp_step (x' := (sg_up (sg_up (sg_up σ1 36 k (nI (T.2 (skp T a) - 48))) 29 3 (nI (k + 1))) 1 2 (nI (skp T a + 1)), nI (k + 1))) top, q1]
      · rw [eW, if_neg c]
        refine ⟨σ1, ?_, s2, e3', hd', f1⟩
        rw [if_neg (show ¬ (T.1 ≤ skp T a ∧ 2 ≤ k) by omega)]
        rw [lp_ret (r := (0, σ1))]
        show f_X10_readFrom_L12 10000 (nI k) σ = _
        rw [top]
        by_cases c1 : dgt T (skp T a) = true
        · rw [c1, show (if true = true then (1 : Int32) else 0) = 1 from rfl, if_neg nn10, if_neg (by rw [nJ_ltL (by omega) (by decide)]; exact fun h => c ⟨c1, h⟩)]; rfl
        · rw [Bool.not_eq_true] at c1
          rw [c1]; rfl
theorem wayC_ok {T : Nat × (Nat → Nat)} {σ : sgS} (o : okT T) (hT : tqC T σ) : ∃ σ', f_X10_readFrom 10000 σ = some ((if wyG T then 1 else 0), σ') ∧ σ'.1 1 2 = nI (wyR T).1 ∧ σ'.1 29 3 = nI (wyR T).2.1 ∧ (∀ i, i < (wyR T).2.1 → σ'.1 36 i = nI ((wyR T).2.2 i)) ∧ Fr pWc σ σ' := by
  have F2 : Fr pWc σ (sg_up (sg_up σ 1 2 0) 29 3 0) := Fr.tr (Fr.up (Or.inl ⟨rfl, rfl⟩)) (Fr.up (Or.inr (Or.inl ⟨rfl, rfl⟩)))
  obtain ⟨σ', q1, q2, q3, q4, q5⟩ := wayC_lp o 13 0 0 (fun _ => 0) 10000 (sg_up (sg_up σ 1 2 0) 29 3 0) (by decide) (by decide) (Nat.zero_le _) (tqC_fr hT F2 (by unfold pWc; omega) (fun q => by unfold pWc; omega)) (by rw [up_ne (by decide), up_at]; rfl) (by rw [up_at]; rfl) (fun i h => absurd h (Nat.not_lt_zero _)) (by decide)
  refine ⟨σ', ?_, q2, q3, q4, F2.tr q5⟩
  unfold f_X10_readFrom
  have q1 : sg_lp (fun x : sgS × Int32 => f_X10_readFrom_L12 10000 x.2 x.1) 10000 ((sg_up (sg_up σ 1 2 0) 29 3 0, 0)) = _ := q1
  rw [pf_eq, pf_eq, q1, lb_inl]
  unfold wyG
  by_cases c : T.1 ≤ (wyR T).1 ∧ 2 ≤ (wyR T).2.1
  · rw [decide_eq_true c]
    show some ((if T.1 ≤ (wyR T).1 ∧ 2 ≤ (wyR T).2.1 then (1 : Int32) else 0), σ') = _
    rw [if_pos c]; rfl
  · rw [decide_eq_false c]
    show some ((if T.1 ≤ (wyR T).1 ∧ 2 ≤ (wyR T).2.1 then (1 : Int32) else 0), σ') = _
    rw [if_neg c]; rfl
def pWm (n j k : Nat) : Prop := (j = 0 ∧ (k = 3 ∨ k = 4)) ∨ (j = 20 ∧ k = n) ∨ (j = 19 ∧ 12 * n ≤ k ∧ k < 12 * n + 12)
theorem wayM_lp {T : Nat × (Nat → Nat)} {n : Nat} (o : okT T) (hn : n < 5) : ∀ f a k d M τ, f + k = 13 → f < M → a ≤ T.1 → tqM T τ → τ.1 0 3 = nI a → τ.1 0 4 = -1 → τ.1 20 n = nI k → (∀ i, i < k → τ.1 19 (12 * n + i) = nI (d i)) → k ≤ 12 → ∃ τ', sg_lp (fun x => f_X12_readWay_L17 10000 (nI n) x) M τ = some (.inr τ') ∧ tqM T τ' ∧ τ'.1 0 3 = nI (wyF T f a k d).1 ∧ τ'.1 0 4 = -1 ∧ τ'.1 20 n = nI (wyF T f a k d).2.1 ∧ (∀ i, i < (wyF T f a k d).2.1 → τ'.1 19 (12 * n + i) = nI ((wyF T f a k d).2.2 i)) ∧ Fr (pWm n) τ τ' := by
  have h240 := o.1
  intro f
  induction f with
  | zero => intro a k d M τ h1 _ _ _ _ _ _ _ h2; omega
  | succ f ih =>
    intro a k d M τ h1 hM ha hT e2 e4 e3 hd hk
    obtain ⟨M, rfl⟩ : ∃ m, M = m + 1 := ⟨M - 1, by omega⟩
    obtain ⟨τ1, s1, s2, s3, s4⟩ := look_ok o (by omega) hT e2
    have hs := skp_le ha
    have e3' : τ1.1 20 n = nI k := by rw [s4 20 n (by unfold pt; omega)]; exact e3
    have e4' : τ1.1 0 4 = -1 := by rw [s4 0 4 (by unfold pt; omega)]; exact e4
    have hd' : ∀ i, i < k → τ1.1 19 (12 * n + i) = nI (d i) := fun i hi => by rw [s4 19 _ (by unfold pt; omega)]; exact hd i hi
    have f1 : Fr (pWm n) τ τ1 := s4.mono (fun j k h => Or.inl ⟨h.1, Or.inl h.2⟩)
    have eW : wyF T (f + 1) a k d = if dgt T (skp T a) = true ∧ k < 12 then wyF T f (skp T a + 1) (k + 1) (fun i => if i = k then T.2 (skp T a) - 48 else d i) else (skp T a, k, d) := rfl
    by_cases c : dgt T (skp T a) = true ∧ k < 12
    · have hl := dgt_lt c.1
      have hb := o.2 _ hl.1
      rw [eW, if_pos c]
      have F2 : Fr (pWm n) τ1 (sg_up (sg_up (sg_up τ1 19 (12 * n + k) (nI (T.2 (skp T a) - 48))) 20 n (nI (k + 1))) 0 3 (nI (skp T a + 1))) := Fr.tr (Fr.tr (Fr.up (Or.inr (Or.inr ⟨rfl, by omega, by omega⟩))) (Fr.up (Or.inr (Or.inl ⟨rfl, rfl⟩)))) (Fr.up (Or.inl ⟨rfl, Or.inl rfl⟩))
      obtain ⟨τ', q1, q2, q3, q4, q5, q6, q7⟩ := ih (skp T a + 1) (k + 1) (fun i => if i = k then T.2 (skp T a) - 48 else d i) M (sg_up (sg_up (sg_up τ1 19 (12 * n + k) (nI (T.2 (skp T a) - 48))) 20 n (nI (k + 1))) 0 3 (nI (skp T a + 1))) (by omega) (by omega) (by omega) (tqM_fr s3 F2 (by unfold pWm; omega) (fun q => by unfold pWm; omega)) up_at (by rw [up_nk (by decide), up_ne (by decide), up_ne (by decide)]; exact e4') (by rw [up_ne (by decide), up_at]) (fun i hi => by
        rw [up_ne (by decide), up_ne (by decide)]
        show _ = nI (if i = k then T.2 (skp T a) - 48 else d i)
        by_cases ci : i = k
        · rw [if_pos ci, ci, up_at]
        · rw [if_neg ci, up_nk (by omega)]; exact hd' i (by omega)) (by omega)
      refine ⟨τ', ?_, q2, q3, q4, q5, q6, (f1.tr F2).tr q7⟩
      rw [lp_step (x' := sg_up (sg_up (sg_up τ1 19 (12 * n + k) (nI (T.2 (skp T a) - 48))) 20 n (nI (k + 1))) 0 3 (nI (skp T a + 1))), q1]
      show f_X12_readWay_L17 10000 (nI n) τ = _
      unfold f_X12_readWay_L17
      rw [s1, cl_some, dig_M o, cr_some, c.1, show (if true = true then (1 : Int32) else 0) = 1 from rfl, if_neg nn10, ld_ok (by omega) (by decide), e3', if_neg (by rw [nJ_Lle (by omega) (by decide)]; omega), ld_ok (by omega) (by decide), e3', here_ok o (by omega) s3 s2, cr_some, chr_y hl.1, nJ_subL (by omega), nJ_Lmul, nJ_add, st_ok (by omega) (by decide), ld_ok (by omega) (by decide), up_ne (by decide), e3', nJ_addL, st_ok (by omega) (by decide), pf_eq, up_ne (by decide), up_ne (by decide), s2, nJ_addL]
    · rw [eW, if_neg c]
      refine ⟨τ1, ?_, s3, s2, e4', e3', hd', f1⟩
      rw [lp_out (y := τ1)]
      show f_X12_readWay_L17 10000 (nI n) τ = _
      unfold f_X12_readWay_L17
      rw [s1, cl_some, dig_M o, cr_some]
      by_cases c1 : dgt T (skp T a) = true
      · rw [c1, show (if true = true then (1 : Int32) else 0) = 1 from rfl, if_neg nn10, ld_ok (by omega) (by decide), e3', if_pos (by rw [nJ_Lle (by omega) (by decide)]; have : ¬ k < 12 := fun h => c ⟨c1, h⟩; omega)]
      · rw [Bool.not_eq_true] at c1
        rw [c1]; rfl
theorem wayM_ok {T : Nat × (Nat → Nat)} {τ : sgS} {n : Nat} (o : okT T) (hn : n < 5) (hT : tqM T τ) : ∃ τ', f_X12_readWay 10000 (nI n) τ = some ((if wyG T then -1 else nI (wyR T).1), τ') ∧ τ'.1 20 n = nI (wyR T).2.1 ∧ (∀ i, i < (wyR T).2.1 → τ'.1 19 (12 * n + i) = nI ((wyR T).2.2 i)) ∧ Fr (pWm n) τ τ' := by
  have h240 := o.1
  have F2 : Fr (pWm n) τ (sg_up (sg_up (sg_up τ 0 3 0) 0 4 (-1)) 20 n 0) := Fr.tr (Fr.tr (Fr.up (Or.inl ⟨rfl, Or.inl rfl⟩)) (Fr.up (Or.inl ⟨rfl, Or.inr rfl⟩))) (Fr.up (Or.inr (Or.inl ⟨rfl, rfl⟩)))
  obtain ⟨τ1, q1, q2, q3, q4, q5, q6, q7⟩ := wayM_lp o hn 13 0 0 (fun _ => 0) 10000 (sg_up (sg_up (sg_up τ 0 3 0) 0 4 (-1)) 20 n 0) (by decide) (by decide) (Nat.zero_le _) (tqM_fr hT F2 (by unfold pWm; omega) (fun q => by unfold pWm; omega)) (by rw [up_ne (by decide), up_nk (by decide), up_at]; rfl) (by rw [up_ne (by decide), up_at]) (by rw [up_at]; rfl) (fun i h => absurd h (Nat.not_lt_zero _)) (by decide)
  have q3 : τ1.1 0 3 = nI (wyR T).1 := q3
  have q5 : τ1.1 20 n = nI (wyR T).2.1 := q5
  have q6 : ∀ i, i < (wyR T).2.1 → τ1.1 19 (12 * n + i) = nI ((wyR T).2.2 i) := q6
  have hok : (wyR T).1 ≤ T.1 ∧ (wyR T).2.1 ≤ 12 := (wyF_ok (T := T) 13 0 0 (fun _ => 0) (by decide) (Nat.zero_le _) (fun i h => absurd h (Nat.not_lt_zero _))).resolve_right (by decide)
  -- it stands where no blank is
  have hid : ∀ f a k d, f + k = 13 → k ≤ 12 → skp T (wyF T f a k d).1 = (wyF T f a k d).1 := by
    intro f
    induction f with
    | zero => intro a k d h1 h2; omega
    | succ f ih =>
      intro a k d h1 h2
      show skp T (if dgt T (skp T a) = true ∧ k < 12 then wyF T f (skp T a + 1) (k + 1) (fun i => if i = k then T.2 (skp T a) - 48 else d i) else (skp T a, k, d)).1 = _
      by_cases c : dgt T (skp T a) = true ∧ k < 12
      · have eW : wyF T (f + 1) a k d = wyF T f (skp T a + 1) (k + 1) (fun i => if i = k then T.2 (skp T a) - 48 else d i) := if_pos c
        rw [if_pos c, eW]
        exact ih _ _ _ (by omega) (by omega)
      · have eW : wyF T (f + 1) a k d = (skp T a, k, d) := if_neg c
        rw [if_neg c, eW]
        exact skp_id
  have hid : skp T (wyR T).1 = (wyR T).1 := hid 13 0 0 (fun _ => 0) (by decide) (by decide)
  obtain ⟨τ2, s1, s2, s3, s4⟩ := look_ok o (by omega) q2 q3
  rw [hid] at s1 s2
  have f4 : Fr (pWm n) τ1 τ2 := s4.mono (fun j k h => Or.inl ⟨h.1, Or.inl h.2⟩)
  have e5 : τ2.1 20 n = nI (wyR T).2.1 := by rw [s4 20 n (by unfold pt; omega)]; exact q5
  have e4 : τ2.1 0 4 = -1 := by rw [s4 0 4 (by unfold pt; omega)]; exact q4
  have e6 : ∀ i, i < (wyR T).2.1 → τ2.1 19 (12 * n + i) = nI ((wyR T).2.2 i) := fun i hi => by rw [s4 19 _ (by unfold pt; omega)]; exact q6 i hi
  have hd : f_X12_readWay 10000 (nI n) τ = (if chr T (wyR T).1 = -1 then (if 2 ≤ nI (wyR T).2.1 then some (τ2.1 0 4, τ2) else (sg_cl (f_X12_bad 10000 τ2) fun v20 s21 => some (s21.1 0 4, s21))) else (sg_cl (f_X12_bad 10000 τ2) fun v17 s18 => some (s18.1 0 4, s18))) := by
    unfold f_X12_readWay
    rw [pf_eq, pf_eq, show (0 : Int32) = nI 0 from rfl, st_ok (by omega) (by decide)]
    rw [show sg_lp (fun x => f_X12_readWay_L17 10000 (nI n) x) 10000 (sg_up (sg_up (sg_up τ 0 3 (nI 0)) 0 4 (-1)) 20 n (nI 0)) = _ from q1, lb_inr, s1, cl_some, ld_ok (by omega) (by decide), e5]
  have bd := bad_ok (a := (wyR T).1) s2 e4
  rw [hd, bd, cl_some]
  unfold wyG
  by_cases c : T.1 ≤ (wyR T).1 ∧ 2 ≤ (wyR T).2.1
  · rw [decide_eq_true c, if_pos ((chr_end o).mpr c.1), if_pos (by rw [nJ_Lle (by omega) (by decide)]; exact c.2), e4]
    exact ⟨τ2, rfl, e5, e6, (F2.tr q7).tr f4⟩
  · rw [decide_eq_false c]
    refine ⟨sg_up τ2 0 4 (nI (wyR T).1), ?_, by rw [up_ne (by decide)]; exact e5, fun i hi => by rw [up_ne (by decide)]; exact e6 i hi, ((F2.tr q7).tr f4).tr (Fr.up (Or.inl ⟨rfl, Or.inr rfl⟩))⟩
    by_cases c1 : T.1 ≤ (wyR T).1
    · rw [if_pos ((chr_end o).mpr c1), if_neg (by rw [nJ_Lle (by omega) (by decide)]; exact fun h => c ⟨c1, h⟩), up_at]; rfl
    · rw [if_neg (fun h => c1 ((chr_end o).mp h)), up_at]; rfl
