/-! THE COUNTY READ -/
def whD (D : Nat → Nat → Nat) : Prop := (2 ≤ D 0 3 ∧ 1 ≤ D 0 4 ∧ 1 ≤ D 0 5) ∧ (∀ q, q < D 0 4 → D 2 q < D 0 3 ∧ D 3 q < D 0 3 ∧ D 2 q ≠ D 3 q) ∧ ∀ q, q < D 0 5 → D 6 q < D 0 3
theorem lp_all {ρ : Type} {b : Int32 → Option (ρ ⊕ (Int32 ⊕ Unit))} {n : Nat} {P : Nat → Prop} {r : ρ} (hs : ∀ k, k < n → P k → b (nI k) = some (.inr (.inl (nI (k + 1))))) (hf : ∀ k, k < n → ¬ P k → b (nI k) = some (.inl r)) (he : b (nI n) = some (.inr (.inr ()))) : ∀ m k N, k + m = n → m < N → ((∀ q, k ≤ q → q < n → P q) → sg_lp b N (nI k) = some (.inr ())) ∧ (¬ (∀ q, k ≤ q → q < n → P q) → sg_lp b N (nI k) = some (.inl r)) := by
  intro m
  induction m with
  | zero =>
    intro k N h1 h2
    obtain ⟨N, rfl⟩ : ∃ q, N = q + 1 := ⟨N - 1, by omega⟩
    have : k = n := by omega
    subst this
    exact ⟨fun _ => lp_out he, fun h => absurd (fun q h1 h2 => by omega) h⟩
  | succ m ih =>
    intro k N h1 h2
    obtain ⟨N, rfl⟩ : ∃ q, N = q + 1 := ⟨N - 1, by omega⟩
    have := ih (k + 1) N (by omega) (by omega)
    by_cases c : P k
    · rw [lp_step (hs k (by omega) c)]
      refine ⟨fun h => this.1 (fun q h3 h4 => h q (by omega) h4), fun h => this.2 (fun h3 => h (fun q h4 h5 => ?_))⟩
      by_cases cq : q = k
      · rw [cq]; exact c
      · exact h3 q (by omega) h5
    · exact ⟨fun h => absurd (h k (Nat.le_refl _) (by omega)) c, fun _ => lp_ret (hf k (by omega) c)⟩
theorem lp_flag {ρ : Type} {b : Int32 × Int32 → Option (ρ ⊕ ((Int32 × Int32) ⊕ Int32))} {n : Nat} {P : Nat → Prop} (hs : ∀ k, k < n → P k → b ((1, nI k)) = some (.inr (.inl ((1, nI (k + 1)))))) (hf : ∀ k, k < n → ¬ P k → b ((1, nI k)) = some (.inr (.inl ((0, nI (k + 1)))))) (h0 : ∀ k, k < n → b ((0, nI k)) = some (.inr (.inl ((0, nI (k + 1)))))) (he : ∀ c, b ((c, nI n)) = some (.inr (.inr c))) : ∀ m k N, k + m = n → m < N → sg_lp b N ((0, nI k)) = some (.inr 0) ∧ ((∀ q, k ≤ q → q < n → P q) → sg_lp b N ((1, nI k)) = some (.inr 1)) ∧ (¬ (∀ q, k ≤ q → q < n → P q) → sg_lp b N ((1, nI k)) = some (.inr 0)) := by
  intro m
  induction m with
  | zero =>
    intro k N h1 h2
    obtain ⟨N, rfl⟩ : ∃ q, N = q + 1 := ⟨N - 1, by omega⟩
    have : k = n := by omega
    subst this
    exact ⟨lp_out (he _), fun _ => lp_out (he _), fun h => absurd (fun q h1 h2 => by omega) h⟩
  | succ m ih =>
    intro k N h1 h2
    obtain ⟨N, rfl⟩ : ∃ q, N = q + 1 := ⟨N - 1, by omega⟩
    have := ih (k + 1) N (by omega) (by omega)
    refine ⟨by rw [lp_step (h0 k (by omega))]; exact this.1, ?_⟩
    by_cases c : P k
    · rw [lp_step (hs k (by omega) c)]
      refine ⟨fun h => this.2.1 (fun q h3 h4 => h q (by omega) h4), fun h => this.2.2 (fun h3 => h (fun q h4 h5 => ?_))⟩
      by_cases cq : q = k
      · rw [cq]; exact c
      · exact h3 q (by omega) h5
    · exact ⟨fun h => absurd (h k (Nat.le_refl _) (by omega)) c, fun _ => by rw [lp_step (hf k (by omega) c)]; exact this.1⟩
theorem hpC {N o p k : Nat} {σ : sgS} (e : σ.1 o 3 = nI p) (hp : p < 1000) (hk : k < 1000) : f_X0_hasPlace N o (nI k) σ = some (if k < p then 1 else 0) := by
  unfold f_X0_hasPlace
  rw [if_neg (show ¬ nI k < 0 by rw [nJ_not_neg (by omega)]; exact id), e]
  by_cases c : k < p
  · rw [if_neg (by rw [nJ_le (by omega) (by omega)]; omega), if_pos c]; rfl
  · rw [if_pos (by rw [nJ_le (by omega) (by omega)]; omega), if_neg c]; rfl
theorem whC {D : Nat → Nat → Nat} {σ : sgS} (hD : dqC D σ) (hB : dqB D) : (whD D → f_X0_isWhole 10000 11 σ = some 1) ∧ (¬ whD D → f_X0_isWhole 10000 11 σ = some 0) := by
  obtain ⟨a, b, c, d⟩ := hD
  obtain ⟨b1, b2, b3, b4, b5, b6, b7, b8, b9⟩ := hB
  have a3 := a 3 (by decide)
  have a4 := a 4 (by decide)
  have a5 := a 5 (by decide)
  have L1 := lp_all (b := fun x => f_X0_isWhole_L28 10000 11 x σ) (n := D 0 4) (P := fun q => D 2 q < D 0 3 ∧ D 3 q < D 0 3 ∧ D 2 q ≠ D 3 q) (r := 0) (fun k hk hP => by
      have hb := b8 k hk
      have hc := c k hk
      show f_X0_isWhole_L28 10000 11 (nI k) σ = _
      unfold f_X0_isWhole_L28 f_X0_hasPlaces
      simp only [Nat.reduceAdd]
      rw [a4, if_neg (by rw [nJ_le (by omega) (by omega)]; omega), ld_ok (by omega) (by decide), ld_ok (by omega) (by decide), hc.1, hc.2.1, hpC a3 (by omega) (by omega), cr_some, if_pos hP.1, if_neg nn10, hpC a3 (by omega) (by omega), cr_some, if_pos hP.2.1, if_neg nn10, cr_some, if_neg (show ¬ vp_nar .boolean 1 = 0 from nn10), ld_ok (by omega) (by decide), ld_ok (by omega) (by decide), hc.1, hc.2.1, if_neg (by rw [nJ_eq (by omega) (by omega)]; exact hP.2.2), nJ_addL]) (fun k hk hP => by
      have hb := b8 k hk
      have hc := c k hk
      show f_X0_isWhole_L28 10000 11 (nI k) σ = _
      unfold f_X0_isWhole_L28 f_X0_hasPlaces
      simp only [Nat.reduceAdd]
      rw [a4, if_neg (by rw [nJ_le (by omega) (by omega)]; omega), ld_ok (by omega) (by decide), ld_ok (by omega) (by decide), hc.1, hc.2.1, hpC a3 (by omega) (by omega), cr_some]
      by_cases h1 : D 2 k < D 0 3
      · rw [if_pos h1, if_neg nn10, hpC a3 (by omega) (by omega), cr_some]
        by_cases h2 : D 3 k < D 0 3
        · rw [if_pos h2, if_neg nn10, cr_some, if_neg (show ¬ vp_nar .boolean 1 = 0 from nn10), ld_ok (by omega) (by decide), ld_ok (by omega) (by decide), hc.1, hc.2.1, if_pos (by rw [nJ_eq (by omega) (by omega)]; exact Classical.byContradiction (fun h => hP ⟨h1, h2, h⟩))]
          rfl
        · rw [if_neg h2, if_pos rfl, cr_some, if_pos (show vp_nar .boolean 0 = 0 from rfl)]
          rfl
      · rw [if_neg h1, if_pos rfl, cr_some, if_pos (show vp_nar .boolean 0 = 0 from rfl)]
        rfl) (by
      show f_X0_isWhole_L28 10000 11 (nI (D 0 4)) σ = _
      unfold f_X0_isWhole_L28
      rw [a4, if_pos (by rw [nJ_le (by omega) (by omega)]; omega)]) (D 0 4) 0 10000 (by omega) (by omega)
  have L2 := lp_all (b := fun x => f_X0_isWhole_L80 10000 11 x σ) (n := D 0 5) (P := fun q => D 6 q < D 0 3) (r := 0) (fun k hk hP => by
      have hb := b9 k hk
      have hc := d k hk
      show f_X0_isWhole_L80 10000 11 (nI k) σ = _
      unfold f_X0_isWhole_L80
      simp only [Nat.reduceAdd]
      rw [a5, if_neg (by rw [nJ_le (by omega) (by omega)]; omega), ld_ok (by omega) (by decide), hc, hpC a3 (by omega) (by omega), cr_some, if_pos hP, if_neg nn10, nJ_addL]) (fun k hk hP => by
      have hb := b9 k hk
      have hc := d k hk
      show f_X0_isWhole_L80 10000 11 (nI k) σ = _
      unfold f_X0_isWhole_L80
      simp only [Nat.reduceAdd]
      rw [a5, if_neg (by rw [nJ_le (by omega) (by omega)]; omega), ld_ok (by omega) (by decide), hc, hpC a3 (by omega) (by omega), cr_some, if_neg hP, if_pos rfl]
      rfl) (by
      show f_X0_isWhole_L80 10000 11 (nI (D 0 5)) σ = _
      unfold f_X0_isWhole_L80
      rw [a5, if_pos (by rw [nJ_le (by omega) (by omega)]; omega)]) (D 0 5) 0 10000 (by omega) (by omega)
  have L1a : (∀ q, 0 ≤ q → q < D 0 4 → D 2 q < D 0 3 ∧ D 3 q < D 0 3 ∧ D 2 q ≠ D 3 q) → sg_lp (fun x => f_X0_isWhole_L28 10000 11 x σ) 10000 0 = some (.inr ()) := L1.1
  have L1b : ¬ (∀ q, 0 ≤ q → q < D 0 4 → D 2 q < D 0 3 ∧ D 3 q < D 0 3 ∧ D 2 q ≠ D 3 q) → sg_lp (fun x => f_X0_isWhole_L28 10000 11 x σ) 10000 0 = some (.inl 0) := L1.2
  have L2a : (∀ q, 0 ≤ q → q < D 0 5 → D 6 q < D 0 3) → sg_lp (fun x => f_X0_isWhole_L80 10000 11 x σ) 10000 0 = some (.inr ()) := L2.1
  have L2b : ¬ (∀ q, 0 ≤ q → q < D 0 5 → D 6 q < D 0 3) → sg_lp (fun x => f_X0_isWhole_L80 10000 11 x σ) 10000 0 = some (.inl 0) := L2.2
  unfold f_X0_isWhole
  rw [a3, a4, a5]
  constructor
  · intro h
    rw [if_neg (by rw [nJ_ltL (by omega) (by decide)]; have := h.1.1; omega), if_neg (by rw [nJ_ltL (by omega) (by decide)]; have := h.1.2.1; omega), if_pos (by rw [nJ_Lle (by omega) (by decide)]; exact h.1.2.2), L1a (fun q _ hq => h.2.1 q hq), lb_inr, L2a (fun q _ hq => h.2.2 q hq), lb_inr]
    rfl
  · intro h
    by_cases c1 : D 0 3 < 2
    · rw [if_pos (by rw [nJ_ltL (by omega) (by decide)]; exact c1)]; rfl
    · rw [if_neg (by rw [nJ_ltL (by omega) (by decide)]; exact c1)]
      by_cases c2 : D 0 4 < 1
      · rw [if_pos (by rw [nJ_ltL (by omega) (by decide)]; exact c2)]; rfl
      · rw [if_neg (by rw [nJ_ltL (by omega) (by decide)]; exact c2)]
        by_cases c3 : 1 ≤ D 0 5
        · rw [if_pos (by rw [nJ_Lle (by omega) (by decide)]; exact c3)]
          by_cases c4 : ∀ q, 0 ≤ q → q < D 0 4 → D 2 q < D 0 3 ∧ D 3 q < D 0 3 ∧ D 2 q ≠ D 3 q
          · rw [L1a c4, lb_inr, L2b (fun c5 => h ⟨⟨by omega, by omega, c3⟩, fun q hq => c4 q (Nat.zero_le _) hq, fun q hq => c5 q (Nat.zero_le _) hq⟩), lb_inl]
          · rw [L1b c4, lb_inl]
        · rw [if_neg (by rw [nJ_Lle (by omega) (by decide)]; exact c3)]; rfl
theorem whM {D : Nat → Nat → Nat} {τ : sgS} (hD : dqM D τ) (hB : dqB D) : (whD D → f_X12_isWhole 10000 τ = some 1) ∧ (¬ whD D → f_X12_isWhole 10000 τ = some 0) := by
  obtain ⟨a1, a2, a3, a4, a5, d1, d2, d3⟩ := hD
  obtain ⟨b1, b2, b3, b4, b5, b6, b7, b8, b9⟩ := hB
  have e30 : ∀ k x, k < D 0 4 → f_X12_isWhole_L30 10000 x (nI k) τ = (if x = 0 then some (.inr (.inl (0, nI (k + 1)))) else if nI (D 0 3) ≤ nI (D 2 k) then some (.inr (.inl (0, nI (k + 1)))) else if nI (D 0 3) ≤ nI (D 3 k) then some (.inr (.inl (0, nI (k + 1)))) else if nI (D 2 k) = nI (D 3 k) then some (.inr (.inl (0, nI (k + 1)))) else some (.inr (.inl (1, nI (k + 1))))) := by
    intro k x hk
    have hc := d2 k hk
    unfold f_X12_isWhole_L30
    rw [a2, if_neg (by rw [nJ_le (by omega) (by omega)]; omega), nJ_Lmul, show (0 : Int32) = nI 0 from rfl, nJ_add, nJ_addL, ld_ok (by omega) (by decide), ld_ok (by omega) (by decide), show τ.1 13 (4 * k + 0) = _ from hc.1, hc.2.1, a1, nJ_addL]
  have L1 := lp_flag (b := fun x : Int32 × Int32 => f_X12_isWhole_L30 10000 x.1 x.2 τ) (n := D 0 4) (P := fun q => D 2 q < D 0 3 ∧ D 3 q < D 0 3 ∧ D 2 q ≠ D 3 q) (fun k hk hP => by
      have hb := b8 k hk
      show f_X12_isWhole_L30 10000 1 (nI k) τ = _
      rw [e30 k _ hk, if_neg nn10, if_neg (by rw [nJ_le (by omega) (by omega)]; omega), if_neg (by rw [nJ_le (by omega) (by omega)]; omega), if_neg (by rw [nJ_eq (by omega) (by omega)]; exact hP.2.2)]) (fun k hk hP => by
      have hb := b8 k hk
      show f_X12_isWhole_L30 10000 1 (nI k) τ = _
      rw [e30 k _ hk, if_neg nn10]
      by_cases h1 : D 2 k < D 0 3
      · rw [if_neg (by rw [nJ_le (by omega) (by omega)]; omega)]
        by_cases h2 : D 3 k < D 0 3
        · rw [if_neg (by rw [nJ_le (by omega) (by omega)]; omega), if_pos (by rw [nJ_eq (by omega) (by omega)]; exact Classical.byContradiction (fun h => hP ⟨h1, h2, h⟩))]
        · rw [if_pos (by rw [nJ_le (by omega) (by omega)]; omega)]
      · rw [if_pos (by rw [nJ_le (by omega) (by omega)]; omega)]) (fun k hk => by
      show f_X12_isWhole_L30 10000 0 (nI k) τ = _
      rw [e30 k _ hk, if_pos rfl]) (fun c => by
      show f_X12_isWhole_L30 10000 c (nI (D 0 4)) τ = _
      unfold f_X12_isWhole_L30
      rw [a2, if_pos (by rw [nJ_le (by omega) (by omega)]; omega)]) (D 0 4) 0 10000 (by omega) (by omega)
  have L2 := lp_flag (b := fun x : Int32 × Int32 => f_X12_isWhole_L102 10000 x.1 x.2 τ) (n := D 0 5) (P := fun q => D 6 q < D 0 3) (fun k hk hP => by
      have hb := b9 k hk
      show f_X12_isWhole_L102 10000 1 (nI k) τ = _
      unfold f_X12_isWhole_L102
      rw [a3, if_neg (by rw [nJ_le (by omega) (by omega)]; omega), if_neg nn10, ld_ok (by omega) (by decide), d3 k hk, a1, if_neg (by rw [nJ_le (by omega) (by omega)]; omega), nJ_addL]) (fun k hk hP => by
      have hb := b9 k hk
      show f_X12_isWhole_L102 10000 1 (nI k) τ = _
      unfold f_X12_isWhole_L102
      rw [a3, if_neg (by rw [nJ_le (by omega) (by omega)]; omega), if_neg nn10, ld_ok (by omega) (by decide), d3 k hk, a1, if_pos (by rw [nJ_le (by omega) (by omega)]; omega), nJ_addL]) (fun k hk => by
      show f_X12_isWhole_L102 10000 0 (nI k) τ = _
      unfold f_X12_isWhole_L102
      rw [a3, if_neg (by rw [nJ_le (by omega) (by omega)]; omega), if_pos rfl, nJ_addL]) (fun c => by
      show f_X12_isWhole_L102 10000 c (nI (D 0 5)) τ = _
      unfold f_X12_isWhole_L102
      rw [a3, if_pos (by rw [nJ_le (by omega) (by omega)]; omega)]) (D 0 5) 0 10000 (by omega) (by omega)
  have L1z : sg_lp (fun x : Int32 × Int32 => f_X12_isWhole_L30 10000 x.1 x.2 τ) 10000 ((0, 0)) = some (.inr 0) := L1.1
  have L1a : (∀ q, 0 ≤ q → q < D 0 4 → D 2 q < D 0 3 ∧ D 3 q < D 0 3 ∧ D 2 q ≠ D 3 q) → sg_lp (fun x : Int32 × Int32 => f_X12_isWhole_L30 10000 x.1 x.2 τ) 10000 ((1, 0)) = some (.inr 1) := L1.2.1
  have L1b : ¬ (∀ q, 0 ≤ q → q < D 0 4 → D 2 q < D 0 3 ∧ D 3 q < D 0 3 ∧ D 2 q ≠ D 3 q) → sg_lp (fun x : Int32 × Int32 => f_X12_isWhole_L30 10000 x.1 x.2 τ) 10000 ((1, 0)) = some (.inr 0) := L1.2.2
  have L2z : sg_lp (fun x : Int32 × Int32 => f_X12_isWhole_L102 10000 x.1 x.2 τ) 10000 ((0, 0)) = some (.inr 0) := L2.1
  have L2a : (∀ q, 0 ≤ q → q < D 0 5 → D 6 q < D 0 3) → sg_lp (fun x : Int32 × Int32 => f_X12_isWhole_L102 10000 x.1 x.2 τ) 10000 ((1, 0)) = some (.inr 1) := L2.2.1
  have L2b : ¬ (∀ q, 0 ≤ q → q < D 0 5 → D 6 q < D 0 3) → sg_lp (fun x : Int32 × Int32 => f_X12_isWhole_L102 10000 x.1 x.2 τ) 10000 ((1, 0)) = some (.inr 0) := L2.2.2
  have z : f_X12_isWhole_B27 10000 0 τ = some 0 := by
    unfold f_X12_isWhole_B27
    rw [L1z, lb_inr, L2z, lb_inr]
    rfl
  unfold f_X12_isWhole
  rw [a1, a2, a3]
  constructor
  · intro h
    rw [if_neg (by rw [nJ_leL (by omega) (by decide)]; have := h.1.1; omega), if_neg (by rw [nJ_leL (by omega) (by decide)]; have := h.1.2.1; omega), if_neg (by rw [nJ_leL (by omega) (by decide)]; have := h.1.2.2; omega)]
    unfold f_X12_isWhole_B27
    rw [L1a (fun q _ hq => h.2.1 q hq), lb_inr, L2a (fun q _ hq => h.2.2 q hq), lb_inr]
    rfl
  · intro h
    by_cases c1 : D 0 3 ≤ 1
    · rw [if_pos (by rw [nJ_leL (by omega) (by decide)]; exact c1), z]
    · rw [if_neg (by rw [nJ_leL (by omega) (by decide)]; exact c1)]
      by_cases c2 : D 0 4 ≤ 0
      · rw [if_pos (by rw [nJ_leL (by omega) (by decide)]; exact c2), z]
      · rw [if_neg (by rw [nJ_leL (by omega) (by decide)]; exact c2)]
        by_cases c3 : D 0 5 ≤ 0
        · rw [if_pos (by rw [nJ_leL (by omega) (by decide)]; exact c3), z]
        · rw [if_neg (by rw [nJ_leL (by omega) (by decide)]; exact c3)]
          unfold f_X12_isWhole_B27
          by_cases c4 : ∀ q, 0 ≤ q → q < D 0 4 → D 2 q < D 0 3 ∧ D 3 q < D 0 3 ∧ D 2 q ≠ D 3 q
          · rw [L1a c4, lb_inr, L2b (fun c5 => h ⟨⟨by omega, by omega, by omega⟩, fun q hq => c4 q (Nat.zero_le _) hq, fun q hq => c5 q (Nat.zero_le _) hq⟩), lb_inr]
            rfl
          · rw [L1b c4, lb_inr, L2z, lb_inr]
            rfl
