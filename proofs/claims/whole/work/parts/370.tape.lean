/-! READING THE TAPE: T is how long it is, and its bytes; a a place -/
def okT (T : Nat × (Nat → Nat)) : Prop := T.1 ≤ 240 ∧ ∀ k, k < T.1 → 1 ≤ T.2 k ∧ T.2 k ≤ 255
def skpF (T : Nat × (Nat → Nat)) : Nat → Nat → Nat
  | 0, a => a
  | k + 1, a => if a < T.1 ∧ T.2 a = 32 then skpF T k (a + 1) else a
def skp (T : Nat × (Nat → Nat)) (a : Nat) : Nat := skpF T (T.1 - a) a
def chr (T : Nat × (Nat → Nat)) (a : Nat) : Int32 := if a < T.1 then nI (T.2 a) else -1
theorem skp_s {T : Nat × (Nat → Nat)} {a : Nat} (h : a < T.1) (h2 : T.2 a = 32) : skp T a = skp T (a + 1) := by
  unfold skp
  rw [show T.1 - a = (T.1 - (a + 1)) + 1 by omega]
  show (if a < T.1 ∧ T.2 a = 32 then skpF T (T.1 - (a + 1)) (a + 1) else a) = _
  rw [if_pos ⟨h, h2⟩]
theorem skp_n {T : Nat × (Nat → Nat)} {a : Nat} (h : ¬ (a < T.1 ∧ T.2 a = 32)) : skp T a = a := by
  unfold skp
  rcases hk : T.1 - a with _ | k
  · rfl
  · show (if a < T.1 ∧ T.2 a = 32 then skpF T k (a + 1) else a) = a
    rw [if_neg h]
theorem skp_in {T : Nat × (Nat → Nat)} : ∀ k a, T.1 - a ≤ k → a ≤ skp T a ∧ skp T a ≤ max a T.1 ∧ ¬ (skp T a < T.1 ∧ T.2 (skp T a) = 32) := by
  intro k
  induction k with
  | zero =>
    intro a h
    rw [skp_n (by omega)]
    omega
  | succ k ih =>
    intro a h
    by_cases c : a < T.1 ∧ T.2 a = 32
    · rw [skp_s c.1 c.2]
      have := ih (a + 1) (by omega)
      omega
    · rw [skp_n c]
      exact ⟨Nat.le_refl _, by omega, c⟩
theorem skp_ge {T : Nat × (Nat → Nat)} {a : Nat} : a ≤ skp T a := (skp_in (T.1 - a) a (Nat.le_refl _)).1
theorem skp_le {T : Nat × (Nat → Nat)} {a : Nat} (h : a ≤ T.1) : skp T a ≤ T.1 := by have := (skp_in (T := T) (T.1 - a) a (Nat.le_refl _)).2.1; omega
theorem skp_id {T : Nat × (Nat → Nat)} {a : Nat} : skp T (skp T a) = skp T a := skp_n (skp_in (T.1 - a) a (Nat.le_refl _)).2.2
theorem chr_n {T : Nat × (Nat → Nat)} {a : Nat} (h : T.1 ≤ a) : chr T a = -1 := if_neg (by omega)
theorem chr_y {T : Nat × (Nat → Nat)} {a : Nat} (h : a < T.1) : chr T a = nI (T.2 a) := if_pos h
theorem chr_end {T : Nat × (Nat → Nat)} {a : Nat} (o : okT T) : (chr T a = -1) ↔ T.1 ≤ a := by
  by_cases c : a < T.1
  · rw [chr_y c, nJ_ne_neg (by have := o.2 a c; omega)]
    exact ⟨fun h => h.elim, fun h => by omega⟩
  · rw [chr_n (by omega)]
    exact ⟨fun _ => by omega, fun _ => rfl⟩
/-- which byte -/
theorem chr_is {T : Nat × (Nat → Nat)} {a c : Nat} (o : okT T) (hc : c < 2147483648) : (chr T a = nI c) ↔ (a < T.1 ∧ T.2 a = c) := by
  by_cases h : a < T.1
  · rw [chr_y h, nJ_eq (by have := o.2 a h; omega) hc]
    exact ⟨fun e => ⟨h, e⟩, fun e => e.2⟩
  · rw [chr_n (by omega)]
    constructor
    · intro e
      have e2 := e.symm
      rw [nJ_ne_neg hc] at e2
      exact e2.elim
    · intro e; exact absurd e.1 h
theorem sign_lp {T : Nat × (Nat → Nat)} (o : okT T) : ∀ k a M σ, T.1 - a ≤ k → k < M → a < 100000 → tqC T σ → σ.1 1 2 = nI a → ∃ σ', sg_lp (fun x => f_X9_sign_L0 10000 x) M σ = some (.inr σ') ∧ σ'.1 1 2 = nI (skp T a) ∧ Fr (pt 1 2) σ σ' := by
  have h240 := o.1
  intro k
  induction k with
  | zero =>
    intro a M σ h1 h2 ha hT e
    obtain ⟨M, rfl⟩ : ∃ m, M = m + 1 := ⟨M - 1, by omega⟩
    refine ⟨σ, ?_, by rw [e, skp_n (by omega)], Fr.rf⟩
    rw [lp_out (y := σ)]
    unfold f_X9_sign_L0
    rw [hT.1, e, if_pos (by rw [nJ_le (by omega) (by omega)]; omega)]
  | succ k ih =>
    intro a M σ h1 h2 ha hT e
    obtain ⟨M, rfl⟩ : ∃ m, M = m + 1 := ⟨M - 1, by omega⟩
    by_cases c : a < T.1
    · have hb := o.2 a c
      by_cases c2 : T.2 a = 32
      · have T2 : tqC T (sg_up σ 1 2 (nI (a + 1))) := ⟨by rw [up_nk (by decide)]; exact hT.1, fun q hq => by rw [up_ne (by decide)]; exact hT.2 q hq⟩
        obtain ⟨σ', e1, e2, e3⟩ := ih (a + 1) M (sg_up σ 1 2 (nI (a + 1))) (by omega) (by omega) (by omega) T2 up_at
        refine ⟨σ', ?_, by rw [e2, skp_s c c2], Fr_pt.tr e3⟩
        rw [lp_step (x' := sg_up σ 1 2 (nI (a + 1))), e1]
        unfold f_X9_sign_L0
        rw [hT.1, e, if_neg (by rw [nJ_le (by omega) (by omega)]; omega), ld_ok (by omega) (by decide), hT.2 a c, c2, if_pos (show nI 32 = 32 from rfl), pf_eq, nJ_addL]
      · refine ⟨σ, ?_, by rw [e, skp_n (fun h => c2 h.2)], Fr.rf⟩
        rw [lp_out (y := σ)]
        unfold f_X9_sign_L0
        rw [hT.1, e, if_neg (by rw [nJ_le (by omega) (by omega)]; omega), ld_ok (by omega) (by decide), hT.2 a c, if_neg (by rw [nJ_eqL (by omega) (by decide)]; exact c2)]
    · refine ⟨σ, ?_, by rw [e, skp_n (fun h => c h.1)], Fr.rf⟩
      rw [lp_out (y := σ)]
      unfold f_X9_sign_L0
      rw [hT.1, e, if_pos (by rw [nJ_le (by omega) (by omega)]; omega)]
theorem tqC_fr {T : Nat × (Nat → Nat)} {σ σ' : sgS} {p : Nat → Nat → Prop} (h : tqC T σ) (f : Fr p σ σ') (h1 : ¬ p 1 1) (h2 : ∀ k, ¬ p 2 k) : tqC T σ' := ⟨by rw [f 1 1 h1]; exact h.1, fun k hk => by rw [f 2 k (h2 k)]; exact h.2 k hk⟩
theorem tqM_fr {T : Nat × (Nat → Nat)} {σ σ' : sgS} {p : Nat → Nat → Prop} (h : tqM T σ) (f : Fr p σ σ') (h1 : ¬ p 0 2) (h2 : ∀ k, ¬ p 1 k) : tqM T σ' := ⟨by rw [f 0 2 h1]; exact h.1, fun k hk => by rw [f 1 k (h2 k)]; exact h.2 k hk⟩
theorem sign_ok {T : Nat × (Nat → Nat)} {a : Nat} {σ : sgS} (o : okT T) (ha : a < 9000) (hT : tqC T σ) (e : σ.1 1 2 = nI a) : ∃ σ', f_X9_sign 10000 σ = some (chr T (skp T a), σ') ∧ σ'.1 1 2 = nI (skp T a) ∧ tqC T σ' ∧ Fr (pt 1 2) σ σ' := by
  have h240 := o.1
  obtain ⟨σ', e1, e2, e3⟩ := sign_lp o (T.1 - a) a 10000 σ (Nat.le_refl _) (by omega) (by omega) hT e
  have T2 : tqC T σ' := tqC_fr hT e3 (by unfold pt; omega) (fun k => by unfold pt; omega)
  have hs := (skp_in (T := T) (T.1 - a) a (Nat.le_refl _)).2.1
  refine ⟨σ', ?_, e2, T2, e3⟩
  unfold f_X9_sign
  rw [e1, lb_inr, T2.1, e2]
  by_cases c : skp T a < T.1
  · rw [if_neg (by rw [nJ_le (by omega) (by omega)]; omega), ld_ok (by omega) (by decide), T2.2 _ c, chr_y c]
  · rw [if_pos (by rw [nJ_le (by omega) (by omega)]; omega), chr_n (by omega)]
/-! the reference -/
theorem here_ok {T : Nat × (Nat → Nat)} {a : Nat} {τ : sgS} (o : okT T) (ha : a < 100000) (hT : tqM T τ) (e : τ.1 0 3 = nI a) : f_X12_here 10000 τ = some (chr T a) := by
  have h240 := o.1
  unfold f_X12_here
  rw [hT.1, e]
  by_cases c : a < T.1
  · rw [if_neg (by rw [nJ_le (by omega) (by omega)]; omega), ld_ok (by omega) (by decide), hT.2 _ c, chr_y c]
  · rw [if_pos (by rw [nJ_le (by omega) (by omega)]; omega), chr_n (by omega)]
theorem look_lp {T : Nat × (Nat → Nat)} (o : okT T) : ∀ k a M τ, T.1 - a ≤ k → k < M → a < 90000 → tqM T τ → τ.1 0 3 = nI a → ∃ τ', sg_lp (fun x => f_X12_look_L0 10000 x) M τ = some (.inr τ') ∧ τ'.1 0 3 = nI (skp T a) ∧ Fr (pt 0 3) τ τ' := by
  have h240 := o.1
  intro k
  induction k with
  | zero =>
    intro a M τ h1 h2 ha hT e
    obtain ⟨M, rfl⟩ : ∃ m, M = m + 1 := ⟨M - 1, by omega⟩
    refine ⟨τ, ?_, by rw [e, skp_n (by omega)], Fr.rf⟩
    rw [lp_out (y := τ)]
    unfold f_X12_look_L0
    rw [here_ok o (by omega) hT e, cr_some, chr_n (by omega), if_neg (by decide)]
  | succ k ih =>
    intro a M τ h1 h2 ha hT e
    obtain ⟨M, rfl⟩ : ∃ m, M = m + 1 := ⟨M - 1, by omega⟩
    by_cases c : a < T.1 ∧ T.2 a = 32
    · have T2 : tqM T (sg_up τ 0 3 (nI (a + 1))) := ⟨by rw [up_nk (by decide)]; exact hT.1, fun q hq => by rw [up_ne (by decide)]; exact hT.2 q hq⟩
      obtain ⟨τ', e1, e2, e3⟩ := ih (a + 1) M (sg_up τ 0 3 (nI (a + 1))) (by omega) (by omega) (by omega) T2 up_at
      refine ⟨τ', ?_, by rw [e2, skp_s c.1 c.2], Fr_pt.tr e3⟩
      rw [lp_step (x' := sg_up τ 0 3 (nI (a + 1))), e1]
      unfold f_X12_look_L0
      rw [here_ok o (by omega) hT e, cr_some, if_pos (show chr T a = 32 from (chr_is (c := 32) o (by decide)).mpr c), pf_eq, e, nJ_addL]
    · refine ⟨τ, ?_, by rw [e, skp_n c], Fr.rf⟩
      rw [lp_out (y := τ)]
      unfold f_X12_look_L0
      rw [here_ok o (by omega) hT e, cr_some, if_neg (show ¬ chr T a = 32 from fun h => c ((chr_is (c := 32) o (by decide)).mp h))]
theorem look_ok {T : Nat × (Nat → Nat)} {a : Nat} {τ : sgS} (o : okT T) (ha : a < 9000) (hT : tqM T τ) (e : τ.1 0 3 = nI a) : ∃ τ', f_X12_look 10000 τ = some (chr T (skp T a), τ') ∧ τ'.1 0 3 = nI (skp T a) ∧ tqM T τ' ∧ Fr (pt 0 3) τ τ' := by
  have h240 := o.1
  obtain ⟨τ', e1, e2, e3⟩ := look_lp o (T.1 - a) a 10000 τ (Nat.le_refl _) (by omega) (by omega) hT e
  have T2 : tqM T τ' := tqM_fr hT e3 (by unfold pt; omega) (fun k => by unfold pt; omega)
  have hs := (skp_in (T := T) (T.1 - a) a (Nat.le_refl _)).2.1
  refine ⟨τ', ?_, e2, T2, e3⟩
  unfold f_X12_look
  rw [e1, lb_inr, here_ok o (by omega) T2 e2, cr_some]
theorem bad_ok {a : Nat} {τ : sgS} (e : τ.1 0 3 = nI a) (w : τ.1 0 4 = -1) : f_X12_bad 10000 τ = some (0, sg_up τ 0 4 (nI a)) := by
  unfold f_X12_bad
  rw [w, if_pos rfl, pf_eq, e]
/-- digits -/
def dgt (T : Nat × (Nat → Nat)) (a : Nat) : Bool := decide (a < T.1 ∧ 48 ≤ T.2 a ∧ T.2 a ≤ 57)
theorem dig_C {T : Nat × (Nat → Nat)} {a : Nat} {σ : sgS} (o : okT T) : f_X9_isDigit 10000 (chr T a) σ = some (if dgt T a then 1 else 0) := by
  unfold f_X9_isDigit dgt
  by_cases h : a < T.1
  · have hb := o.2 a h
    rw [chr_y h]
    by_cases c1 : T.2 a < 48
    · rw [if_pos (by rw [nJ_ltL (by omega) (by decide)]; exact c1), decide_eq_false (by omega)]; rfl
    · rw [if_neg (by rw [nJ_ltL (by omega) (by decide)]; exact c1)]
      by_cases c2 : 57 < T.2 a
      · rw [if_pos (by rw [nJ_Llt (by omega) (by decide)]; exact c2), decide_eq_false (by omega)]; rfl
      · rw [if_neg (by rw [nJ_Llt (by omega) (by decide)]; exact c2), decide_eq_true (by omega)]; rfl
  · rw [chr_n (by omega), decide_eq_false (by omega)]; rfl
theorem dig_M {T : Nat × (Nat → Nat)} {a : Nat} {σ : sgS} (o : okT T) : f_X12_isDigit 10000 (chr T a) σ = some (if dgt T a then 1 else 0) := by
  have := dig_C (σ := σ) (a := a) o
  unfold f_X9_isDigit at this
  unfold f_X12_isDigit
  exact this
theorem dgt_lt {T : Nat × (Nat → Nat)} {a : Nat} (h : dgt T a = true) : a < T.1 ∧ 48 ≤ T.2 a ∧ T.2 a ≤ 57 := by
  unfold dgt at h
  rw [decide_eq_true_eq] at h
  exact h
theorem takes_ok {T : Nat × (Nat → Nat)} {a c : Nat} {σ : sgS} (o : okT T) (ha : a < 9000) (hc : c < 1000) (hT : tqC T σ) (e : σ.1 1 2 = nI a) : ∃ σ', f_X9_takes 10000 (nI c) σ = some ((if chr T (skp T a) = nI c then 1 else 0), σ') ∧ σ'.1 1 2 = nI (if chr T (skp T a) = nI c then skp T a + 1 else skp T a) ∧ tqC T σ' ∧ Fr (pt 1 2) σ σ' := by
  obtain ⟨σ1, e1, e2, e3, e4⟩ := sign_ok o ha hT e
  unfold f_X9_takes
  rw [e1, cl_some]
  by_cases h : chr T (skp T a) = nI c
  · rw [if_pos h, if_pos h, if_pos h, pf_eq, e2, nJ_addL]
    exact ⟨_, rfl, up_at, ⟨by rw [up_nk (by decide)]; exact e3.1, fun q hq => by rw [up_ne (by decide)]; exact e3.2 q hq⟩, e4.tr Fr_pt⟩
  · rw [if_neg h, if_neg h, if_neg h]
    exact ⟨_, rfl, e2, e3, e4⟩
