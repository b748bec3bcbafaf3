/-! CLAUSES: D is the draft, laid as the class lays it -/
def ckI (k : Nat) : Nat := [0, 3, 4, 5].getD k 0
def kpD (k : Nat) (v : Nat → Nat) (D : Nat → Nat → Nat) : Nat → Nat → Nat := fun j q =>
  if k = 0 then (if j = 0 ∧ q = 1 then v 0 else if j = 0 ∧ q = 2 then v 1 else if j = 0 ∧ q = 0 then D 0 0 + 1 else D j q)
  else if k = 1 then (if j = 1 ∧ q = D 0 3 then v 0 else if j = 0 ∧ q = 3 then D 0 3 + 1 else D j q)
  else if k = 2 then (if j = 2 ∧ q = D 0 4 then v 0 else if j = 3 ∧ q = D 0 4 then v 1 else if j = 4 ∧ q = D 0 4 then v 2 else if j = 5 ∧ q = D 0 4 then v 3 else if j = 0 ∧ q = 4 then D 0 4 + 1 else D j q)
  else (if j = 6 ∧ q = D 0 5 then v 0 else if j = 0 ∧ q = 5 then D 0 5 + 1 else D j q)
def dqC (D : Nat → Nat → Nat) (σ : sgS) : Prop := (∀ q, q < 6 → σ.1 11 q = nI (D 0 q)) ∧ (∀ q, q < D 0 3 → σ.1 12 q = nI (D 1 q)) ∧ (∀ q, q < D 0 4 → σ.1 13 q = nI (D 2 q) ∧ σ.1 14 q = nI (D 3 q) ∧ σ.1 15 q = nI (D 4 q) ∧ σ.1 16 q = nI (D 5 q)) ∧ (∀ q, q < D 0 5 → σ.1 17 q = nI (D 6 q))
def dqM (D : Nat → Nat → Nat) (τ : sgS) : Prop := τ.1 0 21 = nI (D 0 3) ∧ τ.1 0 22 = nI (D 0 4) ∧ τ.1 0 23 = nI (D 0 5) ∧ τ.1 11 0 = nI (D 0 1) ∧ τ.1 11 1 = nI (D 0 2) ∧ (∀ q, q < D 0 3 → τ.1 12 q = nI (D 1 q)) ∧ (∀ q, q < D 0 4 → τ.1 13 (4 * q) = nI (D 2 q) ∧ τ.1 13 (4 * q + 1) = nI (D 3 q) ∧ τ.1 13 (4 * q + 2) = nI (D 4 q) ∧ τ.1 13 (4 * q + 3) = nI (D 5 q)) ∧ (∀ q, q < D 0 5 → τ.1 14 q = nI (D 6 q))
def dqB (D : Nat → Nat → Nat) : Prop := D 0 0 ≤ 1 ∧ D 0 3 ≤ 7 ∧ D 0 4 ≤ 12 ∧ D 0 5 ≤ 4 ∧ (1 ≤ D 0 1 ∧ D 0 1 ≤ 24) ∧ D 0 2 ≤ 99 ∧ (∀ q, q < D 0 3 → D 1 q ≤ 9) ∧ (∀ q, q < D 0 4 → D 2 q ≤ 6 ∧ D 3 q ≤ 6 ∧ (1 ≤ D 4 q ∧ D 4 q ≤ 9) ∧ D 5 q ≤ 9) ∧ (∀ q, q < D 0 5 → D 6 q ≤ 6)
theorem dqC_fr {D : Nat → Nat → Nat} {σ σ' : sgS} {p : Nat → Nat → Prop} (h : dqC D σ) (f : Fr p σ σ') (hp : ∀ j q, 11 ≤ j → j ≤ 17 → ¬ p j q) : dqC D σ' := by
  obtain ⟨a, b, c, d⟩ := h
  refine ⟨fun q hq => ?_, fun q hq => ?_, fun q hq => ⟨?_, ?_, ?_, ?_⟩, fun q hq => ?_⟩
  · rw [f 11 q (hp _ _ (by decide) (by decide))]; exact a q hq
  · rw [f 12 q (hp _ _ (by decide) (by decide))]; exact b q hq
  · rw [f 13 q (hp _ _ (by decide) (by decide))]; exact (c q hq).1
  · rw [f 14 q (hp _ _ (by decide) (by decide))]; exact (c q hq).2.1
  · rw [f 15 q (hp _ _ (by decide) (by decide))]; exact (c q hq).2.2.1
  · rw [f 16 q (hp _ _ (by decide) (by decide))]; exact (c q hq).2.2.2
  · rw [f 17 q (hp _ _ (by decide) (by decide))]; exact d q hq
theorem dqM_fr {D : Nat → Nat → Nat} {τ τ' : sgS} {p : Nat → Nat → Prop} (h : dqM D τ) (f : Fr p τ τ') (h21 : ¬ p 0 21) (h22 : ¬ p 0 22) (h23 : ¬ p 0 23) (hp : ∀ j q, 11 ≤ j → j ≤ 14 → ¬ p j q) : dqM D τ' := by
  obtain ⟨a1, a2, a3, a4, a5, b, c, d⟩ := h
  refine ⟨by rw [f 0 21 h21]; exact a1, by rw [f 0 22 h22]; exact a2, by rw [f 0 23 h23]; exact a3, by rw [f 11 0 (hp _ _ (by decide) (by decide))]; exact a4, by rw [f 11 1 (hp _ _ (by decide) (by decide))]; exact a5, fun q hq => ?_, fun q hq => ⟨?_, ?_, ?_, ?_⟩, fun q hq => ?_⟩
  · rw [f 12 q (hp _ _ (by decide) (by decide))]; exact b q hq
  · rw [f 13 _ (hp _ _ (by decide) (by decide))]; exact (c q hq).1
  · rw [f 13 _ (hp _ _ (by decide) (by decide))]; exact (c q hq).2.1
  · rw [f 13 _ (hp _ _ (by decide) (by decide))]; exact (c q hq).2.2.1
  · rw [f 13 _ (hp _ _ (by decide) (by decide))]; exact (c q hq).2.2.2
  · rw [f 14 q (hp _ _ (by decide) (by decide))]; exact d q hq
theorem kp2_0 {v : Nat → Nat} {D : Nat → Nat → Nat} : kpD 2 v D 2 (D 0 4) = v 0 := by
  unfold kpD
  rw [if_neg (by decide), if_neg (by decide), if_pos rfl, if_pos ⟨rfl, rfl⟩]
theorem kp2_1 {v : Nat → Nat} {D : Nat → Nat → Nat} : kpD 2 v D 3 (D 0 4) = v 1 := by
  unfold kpD
  rw [if_neg (by decide), if_neg (by decide), if_pos rfl, if_neg (show ¬ (3 = 2 ∧ D 0 4 = D 0 4) from fun h => by cases h.1), if_pos ⟨rfl, rfl⟩]
theorem kp2_2 {v : Nat → Nat} {D : Nat → Nat → Nat} : kpD 2 v D 4 (D 0 4) = v 2 := by
  unfold kpD
  rw [if_neg (by decide), if_neg (by decide), if_pos rfl, if_neg (show ¬ (4 = 2 ∧ D 0 4 = D 0 4) from fun h => by cases h.1), if_neg (show ¬ (4 = 3 ∧ D 0 4 = D 0 4) from fun h => by cases h.1), if_pos ⟨rfl, rfl⟩]
theorem kp2_3 {v : Nat → Nat} {D : Nat → Nat → Nat} : kpD 2 v D 5 (D 0 4) = v 3 := by
  unfold kpD
  rw [if_neg (by decide), if_neg (by decide), if_pos rfl, if_neg (show ¬ (5 = 2 ∧ D 0 4 = D 0 4) from fun h => by cases h.1), if_neg (show ¬ (5 = 3 ∧ D 0 4 = D 0 4) from fun h => by cases h.1), if_neg (show ¬ (5 = 4 ∧ D 0 4 = D 0 4) from fun h => by cases h.1), if_pos ⟨rfl, rfl⟩]
theorem kp2_n {v : Nat → Nat} {D : Nat → Nat → Nat} {j q : Nat} (hj : 1 ≤ j) (c : q ≠ D 0 4) : kpD 2 v D j q = D j q := by
  unfold kpD
  rw [if_neg (by decide), if_neg (by decide), if_pos rfl, if_neg (fun h => c h.2), if_neg (fun h => c h.2), if_neg (fun h => c h.2), if_neg (fun h => c h.2), if_neg (by omega)]
theorem kpB {k : Nat} {v : Nat → Nat} {D : Nat → Nat → Nat} (hk : k < 4) (hB : dqB D) (hX : D 0 (ckI k) < itX k) (hv : ∀ i, i < itN k → itA (itF k + i) ≤ v i ∧ v i ≤ itZ (itF k + i)) : dqB (kpD k v D) := by
  obtain ⟨b1, b2, b3, b4, b5, b6, b7, b8, b9⟩ := hB
  have hc : k = 0 ∨ k = 1 ∨ k = 2 ∨ k = 3 := by omega
  rcases hc with rfl | rfl | rfl | rfl
  · have v0 := hv 0 (by decide)
    have v1 := hv 1 (by decide)
    have hX : D 0 0 < 1 := hX
    have v0 : 1 ≤ v 0 ∧ v 0 ≤ 24 := v0
    have v1 : 0 ≤ v 1 ∧ v 1 ≤ 99 := v1
    exact ⟨by show D 0 0 + 1 ≤ 1; omega, b2, b3, b4, v0, v1.2, b7, b8, b9⟩
  · have v0 := hv 0 (by decide)
    have hX : D 0 3 < 7 := hX
    have v0 : 0 ≤ v 0 ∧ v 0 ≤ 9 := v0
    refine ⟨b1, by show D 0 3 + 1 ≤ 7; omega, b3, b4, b5, b6, fun q hq => ?_, b8, b9⟩
    have hq : q < D 0 3 + 1 := hq
    show (if 1 = 1 ∧ q = D 0 3 then v 0 else if 1 = 0 ∧ q = 3 then D 0 3 + 1 else D 1 q) ≤ 9
    by_cases c : q = D 0 3
    · rw [if_pos ⟨rfl, c⟩]; exact v0.2
    · rw [if_neg (fun h => c h.2), if_neg (by omega)]; exact b7 q (by omega)
  · have v0 := hv 0 (by decide)
    have v1 := hv 1 (by decide)
    have v2 := hv 2 (by decide)
    have v3 := hv 3 (by decide)
    have hX : D 0 4 < 12 := hX
    have v0 : 0 ≤ v 0 ∧ v 0 ≤ 6 := v0
    have v1 : 0 ≤ v 1 ∧ v 1 ≤ 6 := v1
    have v2 : 1 ≤ v 2 ∧ v 2 ≤ 9 := v2
    have v3 : 0 ≤ v 3 ∧ v 3 ≤ 9 := v3
    refine ⟨b1, b2, by show D 0 4 + 1 ≤ 12; omega, b4, b5, b6, b7, fun q hq => ?_, b9⟩
    have hq : q < D 0 4 + 1 := hq
    by_cases c : q = D 0 4
    · rw [c]
      refine ⟨?_, ?_, ?_, ?_⟩
      · rw [show kpD 2 v D 2 (D 0 4) = v 0 from kp2_0]; exact v0.2
      · rw [show kpD 2 v D 3 (D 0 4) = v 1 from kp2_1]; exact v1.2
      · rw [show kpD 2 v D 4 (D 0 4) = v 2 from kp2_2]; exact v2
      · rw [show kpD 2 v D 5 (D 0 4) = v 3 from kp2_3]; exact v3.2
    · have := b8 q (by omega)
      rw [kp2_n (by decide) c, kp2_n (by decide) c, kp2_n (by decide) c, kp2_n (by decide) c]
      exact this
  · have v0 := hv 0 (by decide)
    have hX : D 0 5 < 4 := hX
    have v0 : 0 ≤ v 0 ∧ v 0 ≤ 6 := v0
    refine ⟨b1, b2, b3, by show D 0 5 + 1 ≤ 4; omega, b5, b6, b7, b8, fun q hq => ?_⟩
    have hq : q < D 0 5 + 1 := hq
    show (if 6 = 6 ∧ q = D 0 5 then v 0 else if 6 = 0 ∧ q = 5 then D 0 5 + 1 else D 6 q) ≤ 6
    by_cases c : q = D 0 5
    · rw [if_pos ⟨rfl, c⟩]; exact v0.2
    · rw [if_neg (fun h => c h.2), if_neg (by omega)]; exact b9 q (by omega)
theorem kpC {k : Nat} {v : Nat → Nat} {D : Nat → Nat → Nat} {σ : sgS} (hk : k < 4) (hD : dqC D σ) (hX : D 0 (ckI k) < itX k) (hv : ∀ i, i < itN k → σ.1 18 (itF k + i) = nI (v i)) : ∃ σ', f_X0_keepClause 10000 11 (nI k) σ = some (0, σ') ∧ dqC (kpD k v D) σ' ∧ Fr (fun j q => 11 ≤ j ∧ j ≤ 17) σ σ' := by
  obtain ⟨a, b, c, d⟩ := hD
  have hc : k = 0 ∨ k = 1 ∨ k = 2 ∨ k = 3 := by omega
  rcases hc with rfl | rfl | rfl | rfl
  · have v0 : σ.1 18 0 = nI (v 0) := hv 0 (by decide)
    have v1 : σ.1 18 1 = nI (v 1) := hv 1 (by decide)
    refine ⟨sg_up (sg_up (sg_up σ 11 1 (nI (v 0))) 11 2 (nI (v 1))) 11 0 (nI (D 0 0 + 1)), ?_, ⟨fun q hq => ?_, fun q hq => ?_, fun q hq => ?_, fun q hq => ?_⟩, Fr.tr (Fr.tr (Fr.up ⟨by decide, by decide⟩) (Fr.up ⟨by decide, by decide⟩)) (Fr.up ⟨by decide, by decide⟩)⟩
    · unfold f_X0_keepClause
      simp only [Nat.reduceAdd]
      rw [if_pos (show nI 0 = 0 from rfl), show (0 : Int32) = nI 0 from rfl, show (1 : Int32) = nI 1 from rfl, ld_ok (by decide) (by decide), v0, pf_eq, ld_ok (by decide) (by decide), up_ne (by decide), v1, pf_eq, pf_eq, up_nk (by decide), up_nk (by decide), a 0 (by decide), nJ_add]
    · have h6 : q = 0 ∨ q = 1 ∨ q = 2 ∨ (q ≠ 0 ∧ q ≠ 1 ∧ q ≠ 2) := by omega
      rcases h6 with rfl | rfl | rfl | ⟨h0, h1, h2⟩
      · rw [up_at]; rfl
      · rw [up_nk (by decide), up_nk (by decide), up_at]; rfl
      · rw [up_nk (by decide), up_at]; rfl
      · rw [up_nk h0, up_nk h2, up_nk h1, a q hq, show kpD 0 v D 0 q = D 0 q by unfold kpD; rw [if_pos rfl, if_neg (fun h => h1 h.2), if_neg (fun h => h2 h.2), if_neg (fun h => h0 h.2)]]
    · rw [up_ne (by decide), up_ne (by decide), up_ne (by decide)]; exact b q hq
    · rw [up_ne (by decide), up_ne (by decide), up_ne (by decide), up_ne (by decide), up_ne (by decide), up_ne (by decide), up_ne (by decide), up_ne (by decide), up_ne (by decide), up_ne (by decide), up_ne (by decide), up_ne (by decide)]; exact c q hq
    · rw [up_ne (by decide), up_ne (by decide), up_ne (by decide)]; exact d q hq
  · have v0 : σ.1 18 2 = nI (v 0) := hv 0 (by decide)
    have hX : D 0 3 < 7 := hX
    refine ⟨sg_up (sg_up σ 12 (D 0 3) (nI (v 0))) 11 3 (nI (D 0 3 + 1)), ?_, ⟨fun q hq => ?_, fun q hq => ?_, fun q hq => ?_, fun q hq => ?_⟩, Fr.tr (Fr.up ⟨by decide, by decide⟩) (Fr.up ⟨by decide, by decide⟩)⟩
    · unfold f_X0_keepClause
      simp only [Nat.reduceAdd]
      rw [if_neg (show ¬ nI 1 = 0 by decide), if_pos (show nI 1 = 1 from rfl), show (2 : Int32) = nI 2 from rfl, ld_ok (by decide) (by decide), v0, a 3 (by decide), st_ok hX (by decide), pf_eq, up_ne (by decide), a 3 (by decide), nJ_addL]
    · by_cases h3 : q = 3
      · rw [h3, up_at]; rfl
      · rw [up_nk h3, up_ne (by decide), a q hq, show kpD 1 v D 0 q = D 0 q by unfold kpD; rw [if_neg (by decide), if_pos rfl, if_neg (fun h => by cases h.1), if_neg (fun h => h3 h.2)]]
    · have hq : q < D 0 3 + 1 := hq
      rw [up_ne (by decide)]
      by_cases c3 : q = D 0 3
      · rw [c3, up_at, show kpD 1 v D 1 (D 0 3) = v 0 by unfold kpD; rw [if_neg (by decide), if_pos rfl, if_pos ⟨rfl, rfl⟩]]
      · rw [up_nk c3, b q (by omega), show kpD 1 v D 1 q = D 1 q by unfold kpD; rw [if_neg (by decide), if_pos rfl, if_neg (fun h => c3 h.2), if_neg (by omega)]]
    · rw [up_ne (by decide), up_ne (by decide), up_ne (by decide), up_ne (by decide), up_ne (by decide), up_ne (by decide), up_ne (by decide), up_ne (by decide)]; exact c q hq
    · rw [up_ne (by decide), up_ne (by decide)]; exact d q hq
  · have v0 : σ.1 18 3 = nI (v 0) := hv 0 (by decide)
    have v1 : σ.1 18 4 = nI (v 1) := hv 1 (by decide)
    have v2 : σ.1 18 5 = nI (v 2) := hv 2 (by decide)
    have v3 : σ.1 18 6 = nI (v 3) := hv 3 (by decide)
    have hX : D 0 4 < 12 := hX
    refine ⟨sg_up (sg_up (sg_up (sg_up (sg_up σ 13 (D 0 4) (nI (v 0))) 14 (D 0 4) (nI (v 1))) 15 (D 0 4) (nI (v 2))) 16 (D 0 4) (nI (v 3))) 11 4 (nI (D 0 4 + 1)), ?_, ⟨fun q hq => ?_, fun q hq => ?_, fun q hq => ?_, fun q hq => ?_⟩, Fr.tr (Fr.tr (Fr.tr (Fr.tr (Fr.up ⟨by decide, by decide⟩) (Fr.up ⟨by decide, by decide⟩)) (Fr.up ⟨by decide, by decide⟩)) (Fr.up ⟨by decide, by decide⟩)) (Fr.up ⟨by decide, by decide⟩)⟩
    · unfold f_X0_keepClause
      simp only [Nat.reduceAdd]
      rw [if_neg (show ¬ nI 2 = 0 by decide), if_neg (show ¬ nI 2 = 1 by decide), if_pos (show nI 2 = 2 from rfl), show (3 : Int32) = nI 3 from rfl, show (4 : Int32) = nI 4 from rfl, show (5 : Int32) = nI 5 from rfl, show (6 : Int32) = nI 6 from rfl]
      rw [ld_ok (by decide) (by decide), v0, a 4 (by decide), st_ok hX (by decide)]
      rw [ld_ok (by decide) (by decide), up_ne (by decide), a 4 (by decide), up_ne (by decide), v1, st_ok hX (by decide)]
      rw [ld_ok (by decide) (by decide), up_ne (by decide), up_ne (by decide), a 4 (by decide), up_ne (by decide), up_ne (by decide), v2, st_ok hX (by decide)]
      rw [ld_ok (by decide) (by decide), up_ne (by decide), up_ne (by decide), up_ne (by decide), a 4 (by decide), up_ne (by decide), up_ne (by decide), up_ne (by decide), v3, st_ok hX (by decide)]
      rw [pf_eq, up_ne (by decide), up_ne (by decide), up_ne (by decide), up_ne (by decide), a 4 (by decide), nJ_addL]
    · by_cases h3 : q = 4
      · rw [h3, up_at]; rfl
      · rw [up_nk h3, up_ne (by decide), up_ne (by decide), up_ne (by decide), up_ne (by decide), a q hq, show kpD 2 v D 0 q = D 0 q by unfold kpD; rw [if_neg (by decide), if_neg (by decide), if_pos rfl, if_neg (fun h => by cases h.1), if_neg (fun h => by cases h.1), if_neg (fun h => by cases h.1), if_neg (fun h => by cases h.1), if_neg (fun h => h3 h.2)]]
    · rw [up_ne (by decide), up_ne (by decide), up_ne (by decide), up_ne (by decide), up_ne (by decide)]; exact b q hq
    · have hq : q < D 0 4 + 1 := hq
      by_cases c3 : q = D 0 4
      · rw [c3, kp2_0, kp2_1, kp2_2, kp2_3]
        refine ⟨?_, ?_, ?_, ?_⟩
        · rw [up_ne (by decide), up_ne (by decide), up_ne (by decide), up_ne (by decide), up_at]
        · rw [up_ne (by decide), up_ne (by decide), up_ne (by decide), up_at]
        · rw [up_ne (by decide), up_ne (by decide), up_at]
        · rw [up_ne (by decide), up_at]
      · rw [kp2_n (by decide) c3, kp2_n (by decide) c3, kp2_n (by decide) c3, kp2_n (by decide) c3]
        have := c q (by omega)
        refine ⟨?_, ?_, ?_, ?_⟩
        · rw [up_ne (by decide), up_ne (by decide), up_ne (by decide), up_ne (by decide), up_nk c3]; exact this.1
        · rw [up_ne (by decide), up_ne (by decide), up_ne (by decide), up_nk c3, up_ne (by decide)]; exact this.2.1
        · rw [up_ne (by decide), up_ne (by decide), up_nk c3, up_ne (by decide), up_ne (by decide)]; exact this.2.2.1
        · rw [up_ne (by decide), up_nk c3, up_ne (by decide), up_ne (by decide), up_ne (by decide)]; exact this.2.2.2
    · rw [up_ne (by decide), up_ne (by decide), up_ne (by decide), up_ne (by decide), up_ne (by decide)]; exact d q hq
  · have v0 : σ.1 18 7 = nI (v 0) := hv 0 (by decide)
    have hX : D 0 5 < 4 := hX
    refine ⟨sg_up (sg_up σ 17 (D 0 5) (nI (v 0))) 11 5 (nI (D 0 5 + 1)), ?_, ⟨fun q hq => ?_, fun q hq => ?_, fun q hq => ?_, fun q hq => ?_⟩, Fr.tr (Fr.up ⟨by decide, by decide⟩) (Fr.up ⟨by decide, by decide⟩)⟩
    · unfold f_X0_keepClause
      simp only [Nat.reduceAdd]
      rw [if_neg (show ¬ nI 3 = 0 by decide), if_neg (show ¬ nI 3 = 1 by decide), if_neg (show ¬ nI 3 = 2 by decide), show (7 : Int32) = nI 7 from rfl, ld_ok (by decide) (by decide), v0, a 5 (by decide), st_ok hX (by decide), pf_eq, up_ne (by decide), a 5 (by decide), nJ_addL]
    · by_cases h3 : q = 5
      · rw [h3, up_at]; rfl
      · rw [up_nk h3, up_ne (by decide), a q hq, show kpD 3 v D 0 q = D 0 q by unfold kpD; rw [if_neg (by decide), if_neg (by decide), if_neg (by decide), if_neg (fun h => by cases h.1), if_neg (fun h => h3 h.2)]]
    · rw [up_ne (by decide), up_ne (by decide)]; exact b q hq
    · rw [up_ne (by decide), up_ne (by decide), up_ne (by decide), up_ne (by decide), up_ne (by decide), up_ne (by decide), up_ne (by decide), up_ne (by decide)]; exact c q hq
    · have hq : q < D 0 5 + 1 := hq
      rw [up_ne (by decide)]
      by_cases c3 : q = D 0 5
      · rw [c3, up_at, show kpD 3 v D 6 (D 0 5) = v 0 by unfold kpD; rw [if_neg (by decide), if_neg (by decide), if_neg (by decide), if_pos ⟨rfl, rfl⟩]]
      · rw [up_nk c3, d q (by omega), show kpD 3 v D 6 q = D 6 q by unfold kpD; rw [if_neg (by decide), if_neg (by decide), if_neg (by decide), if_neg (fun h => c3 h.2), if_neg (by omega)]]
