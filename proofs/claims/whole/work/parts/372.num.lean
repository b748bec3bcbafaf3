/-! NUMBERS of at most m digits, then within bounds -/
def nmF (T : Nat × (Nat → Nat)) : Nat → Nat → Nat → Bool × Nat × Nat
  | 0, a, v => if dgt T a = true then (false, a, v) else (true, a, v)
  | f + 1, a, v => if dgt T a = true then nmF T f (a + 1) (10 * v + (T.2 a - 48)) else (true, a, v)
theorem nmF_bd {T : Nat × (Nat → Nat)} : ∀ f a v, a ≤ T.1 → a ≤ (nmF T f a v).2.1 ∧ (nmF T f a v).2.1 ≤ T.1 ∧ (nmF T f a v).2.1 ≤ a + f ∧ (nmF T f a v).2.2 < (v + 1) * 10 ^ f := by
  intro f
  induction f with
  | zero =>
    intro a v h
    show a ≤ (if dgt T a = true then (false, a, v) else (true, a, v)).2.1 ∧ (if dgt T a = true then (false, a, v) else (true, a, v)).2.1 ≤ T.1 ∧ (if dgt T a = true then (false, a, v) else (true, a, v)).2.1 ≤ a + 0 ∧ (if dgt T a = true then (false, a, v) else (true, a, v)).2.2 < (v + 1) * 10 ^ 0
    rw [Nat.pow_zero]
    split <;> exact ⟨Nat.le_refl _, h, Nat.le_refl _, by show v < (v + 1) * 1; omega⟩
  | succ f ih =>
    intro a v h
    show a ≤ (if dgt T a = true then nmF T f (a + 1) (10 * v + (T.2 a - 48)) else (true, a, v)).2.1 ∧ (if dgt T a = true then nmF T f (a + 1) (10 * v + (T.2 a - 48)) else (true, a, v)).2.1 ≤ T.1 ∧ (if dgt T a = true then nmF T f (a + 1) (10 * v + (T.2 a - 48)) else (true, a, v)).2.1 ≤ a + (f + 1) ∧ (if dgt T a = true then nmF T f (a + 1) (10 * v + (T.2 a - 48)) else (true, a, v)).2.2 < (v + 1) * 10 ^ (f + 1)
    have e : 10 ^ (f + 1) = 10 * 10 ^ f := by rw [Nat.pow_succ, Nat.mul_comm]
    by_cases c : dgt T a = true
    · rw [if_pos c]
      have hl := dgt_lt c
      have := ih (a + 1) (10 * v + (T.2 a - 48)) (by omega)
      refine ⟨by omega, this.2.1, by omega, Nat.lt_of_lt_of_le this.2.2.2 ?_⟩
      rw [e, ← Nat.mul_assoc]
      exact Nat.mul_le_mul_right _ (by omega)
    · rw [if_neg c]
      refine ⟨Nat.le_refl _, h, by show a ≤ a + (f + 1); omega, ?_⟩
      show v < (v + 1) * 10 ^ (f + 1)
      have h1 : 1 ≤ 10 ^ (f + 1) := Nat.one_le_pow _ _ (by decide)
      have h2 : (v + 1) * 1 ≤ (v + 1) * 10 ^ (f + 1) := Nat.mul_le_mul_left _ h1
      omega
theorem nmF_dig {T : Nat × (Nat → Nat)} {f a v : Nat} (h : dgt T a = true) : nmF T (f + 1) a v = nmF T f (a + 1) (10 * v + (T.2 a - 48)) := if_pos h
theorem num_lp {T : Nat × (Nat → Nat)} {m : Nat} (o : okT T) (hm : m ≤ 4) : ∀ f k a v M σ, f + k = m → f < M → a ≤ T.1 → v < 10 ^ k → tqC T σ → σ.1 1 2 = nI a → ∃ σ', (sg_lb (sg_lp (fun x : sgS × Int32 × Int32 => f_X9_number_L4 10000 (nI m) x.2.1 x.2.2 x.1) M ((σ, nI v, nI k))) (fun r => some r) fun y5 => if y5.2.2 = 0 then some ((-1), y5.1) else some (y5.2.1, y5.1)) = some ((if (nmF T f a v).1 = true ∧ (k ≠ 0 ∨ (nmF T f a v).2.1 ≠ a) then nI (nmF T f a v).2.2 else -1), σ') ∧ σ'.1 1 2 = nI (nmF T f a v).2.1 ∧ tqC T σ' ∧ Fr (pt 1 2) σ σ' := by
  have h240 := o.1
  intro f
  induction f with
  | zero =>
    intro k a v M σ hk hM ha hv hT e
    obtain ⟨M, rfl⟩ : ∃ q, M = q + 1 := ⟨M - 1, by omega⟩
    have eF : nmF T 0 a v = if dgt T a = true then (false, a, v) else (true, a, v) := rfl
    by_cases c : dgt T a = true
    · have hl := dgt_lt c
      rw [eF, if_pos c, lp_ret (r := (-1, σ)), lb_inl]
      · exact ⟨σ, by rw [if_neg (fun h => by cases h.1)], e, hT, Fr.rf⟩
      · show f_X9_number_L4 10000 (nI m) (nI v) (nI k) σ = _
        unfold f_X9_number_L4
        rw [hT.1, e, if_neg (by rw [nJ_le (by omega) (by omega)]; omega), ld_ok (by omega) (by decide), hT.2 a hl.1, if_neg (by rw [nJ_ltL (by omega) (by decide)]; omega), ld_ok (by omega) (by decide), hT.2 a hl.1, if_neg (by rw [nJ_Llt (by omega) (by decide)]; omega), if_neg (by rw [nJ_lt (by omega) (by omega)]; omega)]
    · rw [eF, if_neg c, lp_out (y := (σ, nI v, nI k)), lb_inr]
      · refine ⟨σ, ?_, e, hT, Fr.rf⟩
        show (if nI k = 0 then some ((-1 : Int32), σ) else some (nI v, σ)) = some ((if true = true ∧ (k ≠ 0 ∨ a ≠ a) then nI v else -1), σ)
        by_cases ck : k = 0
        · rw [if_pos (by rw [ck]; rfl), if_neg (by omega)]
        · rw [if_neg (by rw [eq0_F (by omega) (by omega)]; exact id), if_pos ⟨rfl, Or.inl ck⟩]
      · show f_X9_number_L4 10000 (nI m) (nI v) (nI k) σ = _
        unfold f_X9_number_L4
        rw [hT.1, e]
        by_cases c1 : a < T.1
        · have hb := o.2 a c1
          rw [if_neg (by rw [nJ_le (by omega) (by omega)]; omega), ld_ok (by omega) (by decide), hT.2 a c1]
          by_cases c2 : T.2 a < 48
          · rw [if_pos (by rw [nJ_ltL (by omega) (by decide)]; exact c2)]
          · rw [if_neg (by rw [nJ_ltL (by omega) (by decide)]; exact c2), ld_ok (by omega) (by decide), hT.2 a c1, if_pos]
            rw [nJ_Llt (by omega) (by decide)]
            unfold dgt at c
            rw [decide_eq_true_eq] at c
            omega
        · rw [if_pos (by rw [nJ_le (by omega) (by omega)]; omega)]
  | succ f ih =>
    intro k a v M σ hk hM ha hv hT e
    obtain ⟨M, rfl⟩ : ∃ q, M = q + 1 := ⟨M - 1, by omega⟩
    have hv4 : 10 ^ k ≤ 10 ^ 4 := Nat.pow_le_pow_right (by decide) (by omega)
    have eF : nmF T (f + 1) a v = if dgt T a = true then nmF T f (a + 1) (10 * v + (T.2 a - 48)) else (true, a, v) := rfl
    by_cases c : dgt T a = true
    · have hl := dgt_lt c
      have T2 : tqC T (sg_up σ 1 2 (nI (a + 1))) := ⟨by rw [up_nk (by decide)]; exact hT.1, fun q hq => by rw [up_ne (by decide)]; exact hT.2 q hq⟩
      obtain ⟨σ', q1, q2, q3, q4⟩ := ih (k + 1) (a + 1) (10 * v + (T.2 a - 48)) M (sg_up σ 1 2 (nI (a + 1))) (by omega) (by omega) (by omega) (by rw [Nat.pow_succ]; omega) T2 up_at
      have hge := (nmF_bd (T := T) f (a + 1) (10 * v + (T.2 a - 48)) (by omega)).1
      rw [eF, if_pos c, lp_step (x' := (sg_up σ 1 2 (nI (a + 1)), nI (10 * v + (T.2 a - 48)), nI (k + 1)))]
      · refine ⟨σ', ?_, q2, q3, Fr_pt.tr q4⟩
        rw [q1]
        by_cases cc : (nmF T f (a + 1) (10 * v + (T.2 a - 48))).1 = true
        · rw [if_pos ⟨cc, Or.inl (by omega)⟩, if_pos ⟨cc, Or.inr (by omega)⟩]
        · rw [if_neg (fun h => cc h.1), if_neg (fun h => cc h.1)]
      · show f_X9_number_L4 10000 (nI m) (nI v) (nI k) σ = _
        unfold f_X9_number_L4
        rw [hT.1, e, if_neg (by rw [nJ_le (by omega) (by omega)]; omega), ld_ok (by omega) (by decide), hT.2 a hl.1, if_neg (by rw [nJ_ltL (by omega) (by decide)]; omega), ld_ok (by omega) (by decide), hT.2 a hl.1, if_neg (by rw [nJ_Llt (by omega) (by decide)]; omega), if_pos (by rw [nJ_lt (by omega) (by omega)]; omega), ld_ok (by omega) (by decide), hT.2 a hl.1, pf_eq, nJ_mulL, nJ_add, nJ_subL (by omega), nJ_addL, nJ_addL, show v * 10 + T.2 a - 48 = 10 * v + (T.2 a - 48) by omega]
    · rw [eF, if_neg c, lp_out (y := (σ, nI v, nI k)), lb_inr]
      · refine ⟨σ, ?_, e, hT, Fr.rf⟩
        show (if nI k = 0 then some ((-1 : Int32), σ) else some (nI v, σ)) = some ((if true = true ∧ (k ≠ 0 ∨ a ≠ a) then nI v else -1), σ)
        by_cases ck : k = 0
        · rw [if_pos (by rw [ck]; rfl), if_neg (by omega)]
        · rw [if_neg (by rw [eq0_F (by omega) (by omega)]; exact id), if_pos ⟨rfl, Or.inl ck⟩]
      · show f_X9_number_L4 10000 (nI m) (nI v) (nI k) σ = _
        unfold f_X9_number_L4
        rw [hT.1, e]
        by_cases c1 : a < T.1
        · have hb := o.2 a c1
          rw [if_neg (by rw [nJ_le (by omega) (by omega)]; omega), ld_ok (by omega) (by decide), hT.2 a c1]
          by_cases c2 : T.2 a < 48
          · rw [if_pos (by rw [nJ_ltL (by omega) (by decide)]; exact c2)]
          · rw [if_neg (by rw [nJ_ltL (by omega) (by decide)]; exact c2), ld_ok (by omega) (by decide), hT.2 a c1, if_pos]
            rw [nJ_Llt (by omega) (by decide)]
            unfold dgt at c
            rw [decide_eq_true_eq] at c
            omega
        · rw [if_pos (by rw [nJ_le (by omega) (by omega)]; omega)]
/-- from a digit on -/
theorem num_C {T : Nat × (Nat → Nat)} {m a : Nat} {σ : sgS} (o : okT T) (h1 : 1 ≤ m) (hm : m ≤ 4) (hd : dgt T a = true) (hT : tqC T σ) (e : σ.1 1 2 = nI a) : ∃ σ', f_X9_number 10000 (nI m) σ = some ((if (nmF T m a 0).1 = true then nI (nmF T m a 0).2.2 else -1), σ') ∧ σ'.1 1 2 = nI (nmF T m a 0).2.1 ∧ tqC T σ' ∧ Fr (pt 1 2) σ σ' := by
  have hl := dgt_lt hd
  obtain ⟨σ', q1, q2, q3, q4⟩ := num_lp o hm m 0 a 0 10000 σ (by omega) (by omega) (by omega) (by decide) hT e
  refine ⟨σ', ?_, q2, q3, q4⟩
  have hne : (nmF T m a 0).2.1 ≠ a := by
    obtain ⟨f, rfl⟩ : ∃ f, m = f + 1 := ⟨m - 1, by omega⟩
    rw [nmF_dig hd]
    have := (nmF_bd (T := T) f (a + 1) (10 * 0 + (T.2 a - 48)) (by omega)).1
    omega
  unfold f_X9_number
  have q1 : (sg_lb (sg_lp (fun x : sgS × Int32 × Int32 => f_X9_number_L4 10000 (nI m) x.2.1 x.2.2 x.1) 10000 ((σ, 0, 0))) (fun r => some r) fun y5 => if y5.2.2 = 0 then some ((-1), y5.1) else some (y5.2.1, y5.1)) = _ := q1
  rw [q1]
  by_cases c : (nmF T m a 0).1 = true
  · rw [if_pos ⟨c, Or.inr hne⟩, if_pos c]
  · rw [if_neg (fun h => c h.1), if_neg c]
/-- a number within bounds: whether, where, which -/
def numR (T : Nat × (Nat → Nat)) (a lo hi : Nat) : Bool × Nat × Nat := if dgt T (skp T a) = true then (if (nmF T 2 (skp T a) 0).1 = true then (if lo ≤ (nmF T 2 (skp T a) 0).2.2 ∧ (nmF T 2 (skp T a) 0).2.2 ≤ hi then (true, (nmF T 2 (skp T a) 0).2.1, (nmF T 2 (skp T a) 0).2.2) else (false, (nmF T 2 (skp T a) 0).2.1 - 1, 0)) else (false, (nmF T 2 (skp T a) 0).2.1, 0)) else (false, skp T a, 0)
theorem numR_bd {T : Nat × (Nat → Nat)} {a lo hi : Nat} (h : a ≤ T.1) : (numR T a lo hi).2.1 ≤ T.1 ∧ ((numR T a lo hi).1 = true → a < (numR T a lo hi).2.1 ∧ lo ≤ (numR T a lo hi).2.2 ∧ (numR T a lo hi).2.2 ≤ hi) := by
  have hs := skp_le h
  have hg := skp_ge (T := T) (a := a)
  have hb := nmF_bd (T := T) 2 (skp T a) 0 hs
  unfold numR
  by_cases c1 : dgt T (skp T a) = true
  · rw [if_pos c1]
    have hl := dgt_lt c1
    have hb2 := nmF_bd (T := T) 1 (skp T a + 1) (10 * 0 + (T.2 (skp T a) - 48)) (by omega)
    rw [show nmF T 1 (skp T a + 1) (10 * 0 + (T.2 (skp T a) - 48)) = nmF T 2 (skp T a) 0 from (nmF_dig (f := 1) c1).symm] at hb2
    by_cases c2 : (nmF T 2 (skp T a) 0).1 = true
    · rw [if_pos c2]
      by_cases c3 : lo ≤ (nmF T 2 (skp T a) 0).2.2 ∧ (nmF T 2 (skp T a) 0).2.2 ≤ hi
      · rw [if_pos c3]
        exact ⟨hb.2.1, fun _ => ⟨by show a < (nmF T 2 (skp T a) 0).2.1; omega, c3.1, c3.2⟩⟩
      · rw [if_neg c3]
        exact ⟨by show (nmF T 2 (skp T a) 0).2.1 - 1 ≤ T.1; omega, (fun h => by cases h)⟩
    · rw [if_neg c2]
      exact ⟨hb.2.1, (fun h => by cases h)⟩
  · rw [if_neg c1]
    exact ⟨hs, (fun h => by cases h)⟩
/-! the reference's number -/
theorem num2_M {T : Nat × (Nat → Nat)} {a lo hi : Nat} {τ : sgS} (o : okT T) (ha : a ≤ T.1) (hlo : lo < 1000) (hhi : hi < 1000) (hT : tqM T τ) (e : τ.1 0 3 = nI a) (w : τ.1 0 4 = -1) : ∃ τ' v, f_X12_number 10000 (nI lo) (nI hi) τ = some (v, τ') ∧ ((numR T a lo hi).1 = true → v = nI (numR T a lo hi).2.2 ∧ τ'.1 0 3 = nI (numR T a lo hi).2.1 ∧ τ'.1 0 4 = -1) ∧ ((numR T a lo hi).1 = false → τ'.1 0 4 = nI (numR T a lo hi).2.1) ∧ tqM T τ' ∧ Fr (fun j k => j = 0 ∧ (k = 3 ∨ k = 4)) τ τ' := by
  have h240 := o.1
  have hs := skp_le ha
  have up3 : ∀ {s : sgS} {x : Int32}, tqM T s → tqM T (sg_up s 0 3 x) := fun h => ⟨by rw [up_nk (by decide)]; exact h.1, fun q hq => by rw [up_ne (by decide)]; exact h.2 q hq⟩
  have up4 : ∀ {s : sgS} {x : Int32}, tqM T s → tqM T (sg_up s 0 4 x) := fun h => ⟨by rw [up_nk (by decide)]; exact h.1, fun q hq => by rw [up_ne (by decide)]; exact h.2 q hq⟩
  have fr3 : ∀ {s : sgS} {x : Int32}, Fr (fun j k => j = 0 ∧ (k = 3 ∨ k = 4)) s (sg_up s 0 3 x) := Fr.up ⟨rfl, Or.inl rfl⟩
  have fr4 : ∀ {s : sgS} {x : Int32}, Fr (fun j k => j = 0 ∧ (k = 3 ∨ k = 4)) s (sg_up s 0 4 x) := Fr.up ⟨rfl, Or.inr rfl⟩
  obtain ⟨τ1, s1, s2, s3, s4⟩ := look_ok o (by omega) hT e
  have w1 : τ1.1 0 4 = -1 := by rw [s4 0 4 (by unfold pt; omega)]; exact w
  have F1 : Fr (fun j k => j = 0 ∧ (k = 3 ∨ k = 4)) τ τ1 := s4.mono (fun j k h => ⟨h.1, Or.inl h.2⟩)
  -- the end: at e with v
  have fin : ∀ s x v, Fr (fun j k => j = 0 ∧ (k = 3 ∨ k = 4)) τ s → tqM T s → s.1 0 3 = nI x → s.1 0 4 = -1 → 1 ≤ x → x ≤ T.1 → v < 1000 → ∃ τ' u, f_X12_number_B67 10000 (nI lo) (nI hi) (nI v) s = some (u, τ') ∧ (dgt T x = false → lo ≤ v → v ≤ hi → u = nI v ∧ τ'.1 0 3 = nI x ∧ τ'.1 0 4 = -1) ∧ (dgt T x = false → ¬ (lo ≤ v ∧ v ≤ hi) → τ'.1 0 4 = nI (x - 1)) ∧ (dgt T x = true → τ'.1 0 4 = nI x) ∧ tqM T τ' ∧ Fr (fun j k => j = 0 ∧ (k = 3 ∨ k = 4)) τ τ' := by
    intro s x v f t e3 e4 hx hx2 hv
    unfold f_X12_number_B67
    rw [here_ok o (by omega) t e3, cr_some, dig_M o, cr_some]
    cases hd : dgt T x with
    | true =>
      rw [show (if true = true then (1 : Int32) else 0) = 1 from rfl, if_neg nn10, bad_ok e3 e4, cl_some]
      exact ⟨_, _, rfl, (fun h => by cases h), (fun h => by cases h), fun _ => up_at, up4 t, f.tr fr4⟩
    | false =>
      rw [show (if false = true then (1 : Int32) else 0) = 0 from rfl, if_pos rfl]
      by_cases c : lo ≤ v ∧ v ≤ hi
      · have ei : f_X12_in 10000 (nI v) (nI lo) (nI hi) s = some 1 := by
          unfold f_X12_in
          rw [if_neg (by rw [nJ_lt (by omega) (by omega)]; omega), if_neg (by rw [nJ_lt (by omega) (by omega)]; omega)]; rfl
        rw [ei, cr_some, if_neg nn10]
        exact ⟨_, _, rfl, fun _ _ _ => ⟨rfl, e3, e4⟩, fun _ h => absurd c h, (fun h => by cases h), t, f⟩
      · have ei : f_X12_in 10000 (nI v) (nI lo) (nI hi) s = some 0 := by
          unfold f_X12_in
          by_cases c1 : v < lo
          · rw [if_pos (by rw [nJ_lt (by omega) (by omega)]; exact c1)]; rfl
          · rw [if_neg (by rw [nJ_lt (by omega) (by omega)]; exact c1), if_pos (by rw [nJ_lt (by omega) (by omega)]; omega)]; rfl
        rw [ei, cr_some, if_pos rfl, pf_eq, e3, show (1 : Int32) = nI 1 from rfl, nJ_sub hx, bad_ok (a := x - 1) up_at (by rw [up_nk (by decide)]; exact e4), cl_some]
        exact ⟨_, _, rfl, fun _ h1 h2 => absurd ⟨h1, h2⟩ c, fun _ _ => up_at, (fun h => by cases h), up4 (up3 t), (f.tr fr3).tr fr4⟩
  unfold f_X12_number numR
  rw [s1, cl_some, dig_M o, cr_some]
  cases hd : dgt T (skp T a) with
  | false =>
    rw [show (if false = true then (1 : Int32) else 0) = 0 from rfl, if_pos rfl, bad_ok s2 w1, cl_some]
    rw [if_neg (show ¬ false = true by decide)]
    exact ⟨_, _, rfl, fun h => (by cases h), fun _ => up_at, up4 s3, F1.tr fr4⟩
  | true =>
    have hl := dgt_lt hd
    rw [show (if true = true then (1 : Int32) else 0) = 1 from rfl, if_neg nn10, here_ok o (by omega) s3 s2, cr_some, chr_y hl.1, pf_eq, s2, nJ_addL, nJ_subL (by omega), if_pos (show true = true from rfl)]
    have t5 := up3 (x := nI (skp T a + 1)) s3
    have e5 : (sg_up τ1 0 3 (nI (skp T a + 1))).1 0 3 = nI (skp T a + 1) := up_at
    have w5 : (sg_up τ1 0 3 (nI (skp T a + 1))).1 0 4 = -1 := by rw [up_nk (by decide)]; exact w1
    have f5 := F1.tr (fr3 (s := τ1) (x := nI (skp T a + 1)))
    generalize sg_up τ1 0 3 (nI (skp T a + 1)) = s5 at t5 e5 w5 f5
    rw [here_ok o (by omega) t5 e5, cr_some, dig_M o, cr_some]
    rw [show nmF T 2 (skp T a) 0 = nmF T 1 (skp T a + 1) (10 * 0 + (T.2 (skp T a) - 48)) from nmF_dig (f := 1) hd]
    cases hd2 : dgt T (skp T a + 1) with
    | false =>
      have eN : nmF T 1 (skp T a + 1) (10 * 0 + (T.2 (skp T a) - 48)) = (true, skp T a + 1, 10 * 0 + (T.2 (skp T a) - 48)) := if_neg (by rw [hd2]; decide)
      obtain ⟨τ', u, q1, q2, q3, q4, q5, q6⟩ := fin s5 (skp T a + 1) (T.2 (skp T a) - 48) f5 t5 e5 w5 (by omega) (by omega) (by omega)
      rw [show (if false = true then (1 : Int32) else 0) = 0 from rfl, if_pos rfl, q1, eN, if_pos (show (true, skp T a + 1, 10 * 0 + (T.2 (skp T a) - 48)).1 = true from rfl), show 10 * 0 + (T.2 (skp T a) - 48) = T.2 (skp T a) - 48 by omega]
      refine ⟨τ', u, rfl, ?_, ?_, q5, q6⟩
      · by_cases c : lo ≤ T.2 (skp T a) - 48 ∧ T.2 (skp T a) - 48 ≤ hi
        · rw [if_pos c]; intro _; exact q2 hd2 c.1 c.2
        · rw [if_neg c]; intro h; cases h
      · by_cases c : lo ≤ T.2 (skp T a) - 48 ∧ T.2 (skp T a) - 48 ≤ hi
        · rw [if_pos c]; intro h; cases h
        · rw [if_neg c]; intro _; exact q3 hd2 c
    | true =>
      have hl2 := dgt_lt hd2
      have t6 := up3 (x := nI (skp T a + 1 + 1)) t5
      have e6 : (sg_up s5 0 3 (nI (skp T a + 1 + 1))).1 0 3 = nI (skp T a + 1 + 1) := up_at
      have w6 : (sg_up s5 0 3 (nI (skp T a + 1 + 1))).1 0 4 = -1 := by rw [up_nk (by decide)]; exact w5
      have f6 := f5.tr (fr3 (s := s5) (x := nI (skp T a + 1 + 1)))
      obtain ⟨τ', u, q1, q2, q3, q4, q5, q6⟩ := fin (sg_up s5 0 3 (nI (skp T a + 1 + 1))) (skp T a + 1 + 1) (10 * (T.2 (skp T a) - 48) + (T.2 (skp T a + 1) - 48)) f6 t6 e6 w6 (by omega) (by omega) (by omega)
      rw [show (if true = true then (1 : Int32) else 0) = 1 from rfl, if_neg nn10, cr_some, chr_y hl2.1, pf_eq, e5, nJ_addL, nJ_Lmul, nJ_add, nJ_subL (by omega), show 10 * (T.2 (skp T a) - 48) + T.2 (skp T a + 1) - 48 = 10 * (T.2 (skp T a) - 48) + (T.2 (skp T a + 1) - 48) by omega, q1]
      rw [show nmF T 1 (skp T a + 1) (10 * 0 + (T.2 (skp T a) - 48)) = nmF T 0 (skp T a + 1 + 1) (10 * (10 * 0 + (T.2 (skp T a) - 48)) + (T.2 (skp T a + 1) - 48)) from nmF_dig (f := 0) hd2, show 10 * (10 * 0 + (T.2 (skp T a) - 48)) + (T.2 (skp T a + 1) - 48) = 10 * (T.2 (skp T a) - 48) + (T.2 (skp T a + 1) - 48) by omega]
      cases hd3 : dgt T (skp T a + 1 + 1) with
      | true =>
        have eN : nmF T 0 (skp T a + 1 + 1) (10 * (T.2 (skp T a) - 48) + (T.2 (skp T a + 1) - 48)) = (false, skp T a + 1 + 1, 10 * (T.2 (skp T a) - 48) + (T.2 (skp T a + 1) - 48)) := if_pos hd3
        rw [eN]
        refine ⟨τ', u, rfl, fun h => (by cases h), fun _ => q4 hd3, q5, q6⟩
      | false =>
        have eN : nmF T 0 (skp T a + 1 + 1) (10 * (T.2 (skp T a) - 48) + (T.2 (skp T a + 1) - 48)) = (true, skp T a + 1 + 1, 10 * (T.2 (skp T a) - 48) + (T.2 (skp T a + 1) - 48)) := if_neg (by rw [hd3]; decide)
        rw [eN, if_pos (show (true, skp T a + 1 + 1, 10 * (T.2 (skp T a) - 48) + (T.2 (skp T a + 1) - 48)).1 = true from rfl)]
        refine ⟨τ', u, rfl, ?_, ?_, q5, q6⟩
        · by_cases c : lo ≤ 10 * (T.2 (skp T a) - 48) + (T.2 (skp T a + 1) - 48) ∧ 10 * (T.2 (skp T a) - 48) + (T.2 (skp T a + 1) - 48) ≤ hi
          · rw [if_pos c]; intro _; exact q2 hd3 c.1 c.2
          · rw [if_neg c]; intro h; cases h
        · by_cases c : lo ≤ 10 * (T.2 (skp T a) - 48) + (T.2 (skp T a + 1) - 48) ∧ 10 * (T.2 (skp T a) - 48) + (T.2 (skp T a + 1) - 48) ≤ hi
          · rw [if_pos c]; intro h; cases h
          · rw [if_neg c]; intro _; exact q3 hd3 c
