/-! A LAW READ, the reference: row n -/
def mqM (n : Nat) (L : List (Int32 × Int32)) (τ : sgS) : Prop := τ.1 0 14 = nI n ∧ τ.1 4 n = nI L.length ∧ ∀ i, i < L.length → τ.1 2 (520 * n + i) = (L.getD i (0, 0)).1 ∧ τ.1 3 (520 * n + i) = (L.getD i (0, 0)).2
def pLm (n j q : Nat) : Prop := (j = 0 ∧ (q = 3 ∨ q = 4 ∨ q = 5)) ∨ ((j = 2 ∨ j = 3) ∧ 520 * n ≤ q ∧ q < 520 * n + 520) ∨ (j = 4 ∧ q = n)
def pLz (j q : Nat) : Prop := j = 0 ∧ (q = 3 ∨ q = 4 ∨ q = 5)
/-- it failed there; no more than m were put -/
def bdM (n m e : Nat) (τ : sgS) : Prop := τ.1 0 4 = nI e ∧ ∃ L, mqM n L τ ∧ L.length ≤ m
def ImM (T : Nat × (Nat → Nat)) (n w : Nat) (f : sgS → Option (Int32 × sgS)) (p : Nat → PR) : Prop := ∀ a τ L, a ≤ T.1 → tqM T τ → τ.1 0 3 = nI a → τ.1 0 4 = -1 → τ.1 0 5 = nI w → mqM n L τ → L.length ≤ a → ∃ τ', f τ = some (0, τ') ∧ tqM T τ' ∧ Fr (pLm n) τ τ' ∧ (((p a).1 = true ∧ τ'.1 0 3 = nI (p a).2.1 ∧ τ'.1 0 4 = -1 ∧ τ'.1 0 5 = nI w ∧ mqM n (L ++ (p a).2.2) τ') ∨ ((p a).1 = false ∧ bdM n (L.length + (T.1 - a)) (p a).2.1 τ'))
theorem pLm_z {n : Nat} {τ τ' : sgS} (f : Fr pLz τ τ') : Fr (pLm n) τ τ' := f.mono (fun j q h => Or.inl h)
theorem pLz_p {τ τ' : sgS} (f : Fr (pt 0 3) τ τ') : Fr pLz τ τ' := f.mono (fun j q h => ⟨h.1, Or.inl h.2⟩)
theorem mqM_fr {n : Nat} {L : List (Int32 × Int32)} {τ τ' : sgS} (h : mqM n L τ) (f : Fr pLz τ τ') : mqM n L τ' := ⟨by rw [f 0 14 (by unfold pLz; omega)]; exact h.1, by rw [f 4 n (by unfold pLz; omega)]; exact h.2.1, fun i hi => by rw [f 2 _ (by unfold pLz; omega), f 3 _ (by unfold pLz; omega)]; exact h.2.2 i hi⟩
theorem tqM_z {T : Nat × (Nat → Nat)} {τ τ' : sgS} (h : tqM T τ) (f : Fr pLz τ τ') : tqM T τ' := tqM_fr h f (by unfold pLz; omega) (fun q => by unfold pLz; omega)
theorem put_M {T : Nat × (Nat → Nat)} {n : Nat} {L : List (Int32 × Int32)} {c' v : Int32} {τ : sgS} (hn : n < 5) (hT : tqM T τ) (h : mqM n L τ) (hl : L.length < 520) : ∃ τ', f_X12_put 10000 c' v τ = some (0, τ') ∧ tqM T τ' ∧ mqM n (L ++ [(c', v)]) τ' ∧ Fr (fun j q => ((j = 2 ∨ j = 3) ∧ 520 * n ≤ q ∧ q < 520 * n + 520) ∨ (j = 4 ∧ q = n)) τ τ' := by
  obtain ⟨h1, h2, h3⟩ := h
  have F : Fr (fun j q => ((j = 2 ∨ j = 3) ∧ 520 * n ≤ q ∧ q < 520 * n + 520) ∨ (j = 4 ∧ q = n)) τ (sg_up (sg_up (sg_up τ 2 (520 * n + L.length) c') 3 (520 * n + L.length) v) 4 n (nI (L.length + 1))) := Fr.tr (Fr.tr (Fr.up (Or.inl ⟨Or.inl rfl, by omega, by omega⟩)) (Fr.up (Or.inl ⟨Or.inr rfl, by omega, by omega⟩))) (Fr.up (Or.inr ⟨rfl, rfl⟩))
  refine ⟨_, ?_, tqM_fr hT F (by omega) (fun q => by omega), ⟨?_, ?_, ?_⟩, F⟩
  · unfold f_X12_put
    rw [h1, ld_ok hn (by decide), h2, nJ_Lmul, nJ_add, st_ok (by omega) (by decide), up_ne (by decide), h1, ld_ok hn (by decide), up_ne (by decide), h2, nJ_Lmul, nJ_add, st_ok (by omega) (by decide), up_ne (by decide), up_ne (by decide), h1, ld_ok hn (by decide), up_ne (by decide), up_ne (by decide), h2, nJ_addL, st_ok hn (by decide)]
  · rw [up_ne (by decide), up_ne (by decide), up_ne (by decide)]; exact h1
  · rw [up_at, List.length_append, List.length_singleton]
  · intro i hi
    rw [List.length_append, List.length_singleton] at hi
    by_cases c : i = L.length
    · have eg : (L ++ [(c', v)]).getD i (0, 0) = (c', v) := by rw [c, List.getD_eq_getElem?_getD, List.getElem?_append_right (Nat.le_refl _), Nat.sub_self]; rfl
      rw [eg, c]
      exact ⟨by rw [up_ne (by decide), up_ne (by decide), up_at], by rw [up_ne (by decide), up_at]⟩
    · have eg : (L ++ [(c', v)]).getD i (0, 0) = L.getD i (0, 0) := by rw [List.getD_eq_getElem?_getD, List.getElem?_append_left (by omega), ← List.getD_eq_getElem?_getD]
      rw [eg]
      exact ⟨by rw [up_ne (by decide), up_ne (by decide), up_nk (by omega)]; exact (h3 i (by omega)).1, by rw [up_ne (by decide), up_nk (by omega), up_ne (by decide)]; exact (h3 i (by omega)).2⟩
/-- a number of at most four digits -/
theorem nmF_one {T : Nat × (Nat → Nat)} : ∀ f a v, (nmF T f a v).1 = !(dgt T (nmF T f a v).2.1) := by
  intro f
  induction f with
  | zero =>
    intro a v
    show (if dgt T a = true then (false, a, v) else (true, a, v)).1 = !(dgt T (if dgt T a = true then (false, a, v) else (true, a, v)).2.1)
    by_cases c : dgt T a = true
    · rw [if_pos c]; show false = !(dgt T a); rw [c]; rfl
    · rw [if_neg c]; rw [Bool.not_eq_true] at c; show true = !(dgt T a); rw [c]; rfl
  | succ f ih =>
    intro a v
    show (if dgt T a = true then nmF T f (a + 1) (10 * v + (T.2 a - 48)) else (true, a, v)).1 = !(dgt T (if dgt T a = true then nmF T f (a + 1) (10 * v + (T.2 a - 48)) else (true, a, v)).2.1)
    by_cases c : dgt T a = true
    · rw [if_pos c]; exact ih _ _
    · rw [if_neg c]; rw [Bool.not_eq_true] at c; show true = !(dgt T a); rw [c]; rfl
theorem pn_lp {T : Nat × (Nat → Nat)} (o : okT T) : ∀ f k a v M τ, f + k = 4 → f < M → a ≤ T.1 → v < 10 ^ k → tqM T τ → τ.1 0 3 = nI a → ∃ τ', sg_lp (fun x : sgS × Int32 × Int32 => f_X12_plainNumber_L4 10000 x.2.1 x.2.2 x.1) M ((τ, nI v, nI k)) = some (.inr (τ', nI (nmF T f a v).2.2)) ∧ τ'.1 0 3 = nI (nmF T f a v).2.1 ∧ tqM T τ' ∧ Fr (pt 0 3) τ τ' := by
  have h240 := o.1
  intro f
  induction f with
  | zero =>
    intro k a v M τ hk hM ha hv hT e
    obtain ⟨M, rfl⟩ : ∃ q, M = q + 1 := ⟨M - 1, by omega⟩
    have e1 : (nmF T 0 a v).2 = (a, v) := by
      show (if dgt T a = true then (false, a, v) else (true, a, v)).2 = (a, v)
      split <;> rfl
    rw [e1]
    refine ⟨τ, ?_, e, hT, Fr.rf⟩
    apply lp_out
    show f_X12_plainNumber_L4 10000 (nI v) (nI k) τ = _
    unfold f_X12_plainNumber_L4
    rw [if_pos (by rw [nJ_Lle (by omega) (by decide)]; omega)]
  | succ f ih =>
    intro k a v M τ hk hM ha hv hT e
    obtain ⟨M, rfl⟩ : ∃ q, M = q + 1 := ⟨M - 1, by omega⟩
    have tn : ¬ (4 : Int32) ≤ nI k := by rw [nJ_Lle (by omega) (by decide)]; omega
    by_cases c : dgt T a = true
    · have hl := dgt_lt c
      rw [nmF_dig c]
      have hpow : 10 ^ (k + 1) = 10 * 10 ^ k := by rw [Nat.pow_succ, Nat.mul_comm]
      have hk4 : 10 ^ k ≤ 10 ^ 4 := Nat.pow_le_pow_right (by decide) (by omega)
      have hk4 : 10 ^ k ≤ 10000 := hk4
      have U := Fr_pt (σ := τ) (i := 0) (k := 3) (v := nI (a + 1))
      obtain ⟨τ', q1, q2, q3, q4⟩ := ih (k + 1) (a + 1) (10 * v + (T.2 a - 48)) M (sg_up τ 0 3 (nI (a + 1))) (by omega) (by omega) (by omega) (by rw [hpow]; omega) (tqM_z hT (pLz_p U)) up_at
      refine ⟨τ', ?_, q2, q3, U.tr q4⟩
      rw [lp_step (x' := (sg_up τ 0 3 (nI (a + 1)), nI (10 * v + (T.2 a - 48)), nI (k + 1))), q1]
      show f_X12_plainNumber_L4 10000 (nI v) (nI k) τ = _
      unfold f_X12_plainNumber_L4
      rw [if_neg tn, here_ok o (by omega) hT e, cr_some, dig_M o, cr_some, c, if_neg (show ¬ (if true = true then (1 : Int32) else 0) = 0 from nn10), cr_some, chr_y hl.1, pf_eq, e, nJ_addL, nJ_Lmul, nJ_add, nJ_subL (by omega), nJ_addL, show 10 * v + T.2 a - 48 = 10 * v + (T.2 a - 48) by omega]
    · have e1 : nmF T (f + 1) a v = (true, a, v) := if_neg c
      rw [e1]
      refine ⟨τ, ?_, e, hT, Fr.rf⟩
      apply lp_out
      show f_X12_plainNumber_L4 10000 (nI v) (nI k) τ = _
      unfold f_X12_plainNumber_L4
      rw [Bool.not_eq_true] at c
      rw [if_neg tn, here_ok o (by omega) hT e, cr_some, dig_M o, cr_some, c, if_pos (show (if false = true then (1 : Int32) else 0) = 0 from rfl)]
theorem pn_M {T : Nat × (Nat → Nat)} {a : Nat} {τ : sgS} (o : okT T) (ha : a ≤ T.1) (hT : tqM T τ) (e : τ.1 0 3 = nI a) (w : τ.1 0 4 = -1) : ∃ τ', f_X12_plainNumber 10000 τ = some (nI (nmF T 4 a 0).2.2, τ') ∧ tqM T τ' ∧ Fr pLz τ τ' ∧ τ'.1 0 5 = τ.1 0 5 ∧ τ'.1 0 3 = nI (nmF T 4 a 0).2.1 ∧ (((nmF T 4 a 0).1 = true ∧ τ'.1 0 4 = -1) ∨ ((nmF T 4 a 0).1 = false ∧ τ'.1 0 4 = nI (nmF T 4 a 0).2.1)) := by
  have h240 := o.1
  have hb := nmF_bd (T := T) 4 a 0 ha
  obtain ⟨τ1, q1, q2, q3, q4⟩ := pn_lp o 4 0 a 0 10000 τ (by decide) (by decide) ha (by decide) hT e
  have q1 : sg_lp (fun x : sgS × Int32 × Int32 => f_X12_plainNumber_L4 10000 x.2.1 x.2.2 x.1) 10000 ((τ, 0, 0)) = some (.inr (τ1, nI (nmF T 4 a 0).2.2)) := q1
  have w1 : τ1.1 0 4 = -1 := by rw [q4 0 4 (by unfold pt; omega)]; exact w
  have w5 : τ1.1 0 5 = τ.1 0 5 := q4 0 5 (by unfold pt; omega)
  have h1 := nmF_one (T := T) 4 a 0
  unfold f_X12_plainNumber
  rw [q1, lb_inr]
  show ∃ τ', (sg_cr (f_X12_here 10000 τ1) fun v6 => sg_cr (f_X12_isDigit 10000 v6 τ1) fun v7 => if v7 = 0 then some (nI (nmF T 4 a 0).2.2, τ1) else sg_cl (f_X12_bad 10000 τ1) fun v8 s9 => some (nI (nmF T 4 a 0).2.2, s9)) = _ ∧ _
  rw [here_ok o (by omega) q3 q2, cr_some, dig_M o, cr_some]
  cases hd : dgt T (nmF T 4 a 0).2.1 with
  | false =>
    rw [hd] at h1
    rw [if_pos (show (if false = true then (1 : Int32) else 0) = 0 from rfl)]
    exact ⟨τ1, rfl, q3, pLz_p q4, w5, q2, Or.inl ⟨h1, w1⟩⟩
  | true =>
    rw [hd] at h1
    rw [if_neg (show ¬ (if true = true then (1 : Int32) else 0) = 0 from nn10), bad_ok q2 w1, cl_some]
    have F2 : Fr pLz τ (sg_up τ1 0 4 (nI (nmF T 4 a 0).2.1)) := (pLz_p q4).tr (Fr.up ⟨rfl, Or.inr (Or.inl rfl)⟩)
    exact ⟨_, rfl, tqM_z hT F2, F2, by rw [up_nk (by decide)]; exact w5, by rw [up_nk (by decide)]; exact q2, Or.inr ⟨h1, up_at⟩⟩
