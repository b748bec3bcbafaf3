/-! THE GROUPS of what is kept, each with the places where it lies: what writes elsewhere leaves it -/
def gCT (A : Abs) (σ : sgS) : Prop := σ.1 1 1 = nI (aT A).1 ∧ ∀ k, k < (aT A).1 → σ.1 2 k = nI ((aT A).2 k)
def xCT (j k : Nat) : Prop := (j = 1 ∧ k = 1) ∨ j = 2
def gCK (A : Abs) (σ : sgS) : Prop := CK (aK A) σ
def xCK (j k : Nat) : Prop := 3 ≤ j ∧ j ≤ 9
def gCL (A : Abs) (σ : sgS) : Prop := CLw (aL A) σ
def xCL (j k : Nat) : Prop := (j = 21 ∧ (k = 4 ∨ k = 5)) ∨ (23 ≤ j ∧ j ≤ 27)
def gCY (A : Abs) (σ : sgS) : Prop := CY (aY A) σ
def xCY (j k : Nat) : Prop := (j = 29 ∧ k = 4) ∨ (31 ≤ j ∧ j ≤ 35)
def gCN (A : Abs) (σ : sgS) : Prop := (cP (aK A) ≠ 0 → CS (aK A) (aS A) 37 σ) ∧ σ.1 37 7 = nI (sD (aS A)) ∧ CLg (aG A) (aO A) (sD (aS A)) (σ.1 54)
def xCN (j k : Nat) : Prop := (37 ≤ j ∧ j ≤ 42) ∨ j = 54
def gCP (A : Abs) (σ : sgS) : Prop := CPast A σ
def xCP (j k : Nat) : Prop := (j = 52 ∧ (k = 1 ∨ k = 2)) ∨ (62 ≤ j ∧ j ≤ 301)
def gCI (A : Abs) (σ : sgS) : Prop := CImg A σ
def xCI (j k : Nat) : Prop := (j = 52 ∧ k = 6) ∨ (55 ≤ j ∧ j ≤ 61)
def gCV (A : Abs) (σ : sgS) : Prop := CSeen A σ
def xCV (j k : Nat) : Prop := (j = 320 ∧ k = 9) ∨ (321 ≤ j ∧ j ≤ 324)
def gCF (A : Abs) (σ : sgS) : Prop := σ.1 0 14 = nI (aF A)
def xCF (j k : Nat) : Prop := j = 0 ∧ k = 14
def gCR (A : Abs) (σ : sgS) : Prop := ∀ k, k < 5 → σ.1 331 k = aR A k
def xCR (j k : Nat) : Prop := j = 331
theorem RelC_iff {A : Abs} {σ : sgS} : RelC A σ ↔ gCT A σ ∧ gCK A σ ∧ gCL A σ ∧ gCY A σ ∧ gCN A σ ∧ gCP A σ ∧ gCI A σ ∧ gCV A σ ∧ gCF A σ ∧ gCR A σ := ⟨fun ⟨a, b, c, d, e, f, g, h, i, j, k, l⟩ => ⟨a, b, c, d, ⟨e, f, g⟩, h, i, j, k, l⟩, fun ⟨a, b, c, d, ⟨e, f, g⟩, h, i, j, k, l⟩ => ⟨a, b, c, d, e, f, g, h, i, j, k, l⟩⟩
def gMT (A : Abs) (σ : sgS) : Prop := σ.1 0 2 = nI (aT A).1 ∧ ∀ k, k < (aT A).1 → σ.1 1 k = nI ((aT A).2 k)
def xMT (j k : Nat) : Prop := (j = 0 ∧ k = 2) ∨ j = 1
def gMK (A : Abs) (σ : sgS) : Prop := MK (aK A) σ
def xMK (j k : Nat) : Prop := (j = 0 ∧ 28 ≤ k ∧ k ≤ 30) ∨ (15 ≤ j ∧ j ≤ 18)
def gML (A : Abs) (σ : sgS) : Prop := MLw (aL A) σ
def xML (j k : Nat) : Prop := (j = 0 ∧ (k = 13 ∨ k = 36)) ∨ j = 2 ∨ j = 3 ∨ (5 ≤ j ∧ j ≤ 8)
def gMY (A : Abs) (σ : sgS) : Prop := MY (aY A) σ
def xMY (j k : Nat) : Prop := (j = 0 ∧ k = 33) ∨ j = 19 ∨ j = 20
def gMN (A : Abs) (σ : sgS) : Prop := (cP (aK A) ≠ 0 → MS (aK A) (aS A) (σ.1 21)) ∧ σ.1 21 33 = nI (sD (aS A)) ∧ MLg (aG A) (sD (aS A)) (σ.1 21)
def xMN (j k : Nat) : Prop := j = 21
def gMP (A : Abs) (σ : sgS) : Prop := MPast A σ
def xMP (j k : Nat) : Prop := (j = 0 ∧ k = 42) ∨ j = 25
def gMI (A : Abs) (σ : sgS) : Prop := MImg A σ
def xMI (j k : Nat) : Prop := (j = 0 ∧ k = 57) ∨ j = 34
def gMV (A : Abs) (σ : sgS) : Prop := MSeen A σ
def xMV (j k : Nat) : Prop := (j = 0 ∧ k = 54) ∨ (29 ≤ j ∧ j ≤ 32)
def gMF (A : Abs) (σ : sgS) : Prop := σ.1 0 37 = nI (aF A)
def xMF (j k : Nat) : Prop := j = 0 ∧ k = 37
def gMR (A : Abs) (σ : sgS) : Prop := ∀ k, k < 5 → σ.1 22 k = aR A k
def xMR (j k : Nat) : Prop := j = 22
theorem RelM_iff {A : Abs} {σ : sgS} : RelM A σ ↔ gMT A σ ∧ gMK A σ ∧ gML A σ ∧ gMY A σ ∧ gMN A σ ∧ gMP A σ ∧ gMI A σ ∧ gMV A σ ∧ gMF A σ ∧ gMR A σ := ⟨fun ⟨a, b, c, d, e, f, g, h, i, j, k, l⟩ => ⟨a, b, c, d, ⟨e, f, g⟩, h, i, j, k, l⟩, fun ⟨a, b, c, d, ⟨e, f, g⟩, h, i, j, k, l⟩ => ⟨a, b, c, d, e, f, g, h, i, j, k, l⟩⟩
theorem gCT_fr {A A' : Abs} {p : Nat → Nat → Prop} {σ σ' : sgS} (f : Fr p σ σ') (d : ∀ j k, xCT j k → ¬ p j k) (eaT : aT A' = aT A) (h : gCT A σ) : gCT A' σ' := by
  have e : ∀ j k, xCT j k → σ'.1 j k = σ.1 j k := fun j k hx => f j k (d j k hx)
  have e' : ∀ j, (∀ k, xCT j k) → σ'.1 j = σ.1 j := fun j hj => funext fun k => e j k (hj k)
  unfold gCT at h ⊢
  rw [eaT, e' 2 (fun k => by unfold xCT; omega), e 1 1 (by unfold xCT; omega)]
  exact h
theorem gCK_fr {A A' : Abs} {p : Nat → Nat → Prop} {σ σ' : sgS} (f : Fr p σ σ') (d : ∀ j k, xCK j k → ¬ p j k) (eaK : aK A' = aK A) (h : gCK A σ) : gCK A' σ' := by
  have e : ∀ j k, xCK j k → σ'.1 j k = σ.1 j k := fun j k hx => f j k (d j k hx)
  have e' : ∀ j, (∀ k, xCK j k) → σ'.1 j = σ.1 j := fun j hj => funext fun k => e j k (hj k)
  unfold gCK CK at h ⊢
  rw [eaK, e' 3 (fun k => by unfold xCK; omega), e' 4 (fun k => by unfold xCK; omega), e' 5 (fun k => by unfold xCK; omega), e' 6 (fun k => by unfold xCK; omega), e' 7 (fun k => by unfold xCK; omega), e' 8 (fun k => by unfold xCK; omega), e' 9 (fun k => by unfold xCK; omega)]
  exact h
theorem gCL_fr {A A' : Abs} {p : Nat → Nat → Prop} {σ σ' : sgS} (f : Fr p σ σ') (d : ∀ j k, xCL j k → ¬ p j k) (eaL : aL A' = aL A) (o : (aL A).1 ≤ 4) (h : gCL A σ) : gCL A' σ' := by
  have e : ∀ j k, xCL j k → σ'.1 j k = σ.1 j k := fun j k hx => f j k (d j k hx)
  have e' : ∀ j, (∀ k, xCL j k) → σ'.1 j = σ.1 j := fun j hj => funext fun k => e j k (hj k)
  unfold gCL at h ⊢
  rw [eaL]
  obtain ⟨w1, w2, w3⟩ := h
  refine ⟨?_, ?_, fun i hi => ?_⟩
  · rw [e 21 4 (by unfold xCL; omega)]; exact w1
  · rw [e 21 5 (by unfold xCL; omega)]; exact w2
  · rw [e 27 i (by unfold xCL; omega)]
    refine ⟨(w3 i hi).1, fun q hq => ?_⟩
    rw [e (23 + i) q (by unfold xCL; omega)]
    exact (w3 i hi).2 q hq
theorem gCY_fr {A A' : Abs} {p : Nat → Nat → Prop} {σ σ' : sgS} (f : Fr p σ σ') (d : ∀ j k, xCY j k → ¬ p j k) (eaY : aY A' = aY A) (o : wN (aY A) ≤ 4) (h : gCY A σ) : gCY A' σ' := by
  have e : ∀ j k, xCY j k → σ'.1 j k = σ.1 j k := fun j k hx => f j k (d j k hx)
  have e' : ∀ j, (∀ k, xCY j k) → σ'.1 j = σ.1 j := fun j hj => funext fun k => e j k (hj k)
  unfold gCY at h ⊢
  rw [eaY]
  obtain ⟨y1, y2⟩ := h
  refine ⟨?_, fun i hi => ?_⟩
  · rw [e 29 4 (by unfold xCY; omega)]; exact y1
  · rw [e 35 i (by unfold xCY; omega)]
    refine ⟨(y2 i hi).1, fun q hq => ?_⟩
    rw [e (31 + i) q (by unfold xCY; omega)]
    exact (y2 i hi).2 q hq
theorem gCN_fr {A A' : Abs} {p : Nat → Nat → Prop} {σ σ' : sgS} (f : Fr p σ σ') (d : ∀ j k, xCN j k → ¬ p j k) (eaK : aK A' = aK A) (eaS : aS A' = aS A) (eaG : aG A' = aG A) (eaO : aO A' = aO A) (h : gCN A σ) : gCN A' σ' := by
  have e : ∀ j k, xCN j k → σ'.1 j k = σ.1 j k := fun j k hx => f j k (d j k hx)
  have e' : ∀ j, (∀ k, xCN j k) → σ'.1 j = σ.1 j := fun j hj => funext fun k => e j k (hj k)
  unfold gCN at h ⊢
  rw [eaK, eaS, eaG, eaO]
  refine ⟨fun hp => CS_congr (fun i hi => e' _ (fun k => by unfold xCN; omega)) (h.1 hp), ?_, ?_⟩
  · rw [e 37 7 (by unfold xCN; omega)]; exact h.2.1
  · rw [e' 54 (fun k => by unfold xCN; omega)]; exact h.2.2
theorem gCP_fr {A A' : Abs} {p : Nat → Nat → Prop} {σ σ' : sgS} (f : Fr p σ σ') (d : ∀ j k, xCP j k → ¬ p j k) (eaK : aK A' = aK A) (eaN : aN A' = aN A) (eaH : aH A' = aH A) (h : gCP A σ) : gCP A' σ' := by
  have e : ∀ j k, xCP j k → σ'.1 j k = σ.1 j k := fun j k hx => f j k (d j k hx)
  have e' : ∀ j, (∀ k, xCP j k) → σ'.1 j = σ.1 j := fun j hj => funext fun k => e j k (hj k)
  obtain ⟨p1, nx, p2, p3, p4⟩ := h
  unfold gCP CPast
  rw [eaK, eaN, eaH]
  refine ⟨?_, nx, p2, ?_, fun a ha => CS_congr (fun i hi => e' _ (fun k => ?_)) (p4 a ha)⟩
  · rw [e 52 1 (by unfold xCP; omega)]; exact p1
  · rw [e 52 2 (by unfold xCP; omega)]; exact p3
  · have := Nat.mod_lt (nx + 40 - aN A + a) (show 0 < 40 by decide)
    unfold xCP; omega
theorem gCI_fr {A A' : Abs} {p : Nat → Nat → Prop} {σ σ' : sgS} (f : Fr p σ σ') (d : ∀ j k, xCI j k → ¬ p j k) (eaK : aK A' = aK A) (eaI : aI A' = aI A) (h : gCI A σ) : gCI A' σ' := by
  have e : ∀ j k, xCI j k → σ'.1 j k = σ.1 j k := fun j k hx => f j k (d j k hx)
  have e' : ∀ j, (∀ k, xCI j k) → σ'.1 j = σ.1 j := fun j hj => funext fun k => e j k (hj k)
  obtain ⟨p1, p2⟩ := h
  unfold gCI CImg
  rw [eaK, eaI]
  refine ⟨?_, fun hi => ⟨CS_congr (fun i hi => e' _ (fun k => by unfold xCI; omega)) (p2 hi).1, ?_⟩⟩
  · rw [e 52 6 (by unfold xCI; omega)]; exact p1
  · rw [e' 61 (fun k => by unfold xCI; omega)]; exact (p2 hi).2
theorem gCV_fr {A A' : Abs} {p : Nat → Nat → Prop} {σ σ' : sgS} (f : Fr p σ σ') (d : ∀ j k, xCV j k → ¬ p j k) (eaV : aV A' = aV A) (h : gCV A σ) : gCV A' σ' := by
  have e : ∀ j k, xCV j k → σ'.1 j k = σ.1 j k := fun j k hx => f j k (d j k hx)
  have e' : ∀ j, (∀ k, xCV j k) → σ'.1 j = σ.1 j := fun j hj => funext fun k => e j k (hj k)
  unfold gCV CSeen at h ⊢
  rw [eaV, e' 321 (fun k => by unfold xCV; omega), e' 322 (fun k => by unfold xCV; omega), e' 323 (fun k => by unfold xCV; omega), e' 324 (fun k => by unfold xCV; omega), e 320 9 (by unfold xCV; omega)]
  exact h
theorem gCF_fr {A A' : Abs} {p : Nat → Nat → Prop} {σ σ' : sgS} (f : Fr p σ σ') (d : ∀ j k, xCF j k → ¬ p j k) (eaF : aF A' = aF A) (h : gCF A σ) : gCF A' σ' := by
  have e : ∀ j k, xCF j k → σ'.1 j k = σ.1 j k := fun j k hx => f j k (d j k hx)
  have e' : ∀ j, (∀ k, xCF j k) → σ'.1 j = σ.1 j := fun j hj => funext fun k => e j k (hj k)
  unfold gCF at h ⊢
  rw [eaF, e 0 14 (by unfold xCF; omega)]
  exact h
theorem gCR_fr {A A' : Abs} {p : Nat → Nat → Prop} {σ σ' : sgS} (f : Fr p σ σ') (d : ∀ j k, xCR j k → ¬ p j k) (eaR : aR A' = aR A) (h : gCR A σ) : gCR A' σ' := by
  have e : ∀ j k, xCR j k → σ'.1 j k = σ.1 j k := fun j k hx => f j k (d j k hx)
  have e' : ∀ j, (∀ k, xCR j k) → σ'.1 j = σ.1 j := fun j hj => funext fun k => e j k (hj k)
  unfold gCR at h ⊢
  rw [eaR, e' 331 (fun k => by unfold xCR; omega)]
  exact h
theorem gMT_fr {A A' : Abs} {p : Nat → Nat → Prop} {σ σ' : sgS} (f : Fr p σ σ') (d : ∀ j k, xMT j k → ¬ p j k) (eaT : aT A' = aT A) (h : gMT A σ) : gMT A' σ' := by
  have e : ∀ j k, xMT j k → σ'.1 j k = σ.1 j k := fun j k hx => f j k (d j k hx)
  have e' : ∀ j, (∀ k, xMT j k) → σ'.1 j = σ.1 j := fun j hj => funext fun k => e j k (hj k)
  unfold gMT at h ⊢
  rw [eaT, e' 1 (fun k => by unfold xMT; omega), e 0 2 (by unfold xMT; omega)]
  exact h
theorem gMK_fr {A A' : Abs} {p : Nat → Nat → Prop} {σ σ' : sgS} (f : Fr p σ σ') (d : ∀ j k, xMK j k → ¬ p j k) (eaK : aK A' = aK A) (h : gMK A σ) : gMK A' σ' := by
  have e : ∀ j k, xMK j k → σ'.1 j k = σ.1 j k := fun j k hx => f j k (d j k hx)
  have e' : ∀ j, (∀ k, xMK j k) → σ'.1 j = σ.1 j := fun j hj => funext fun k => e j k (hj k)
  unfold gMK MK at h ⊢
  rw [eaK, e' 15 (fun k => by unfold xMK; omega), e' 16 (fun k => by unfold xMK; omega), e' 17 (fun k => by unfold xMK; omega), e' 18 (fun k => by unfold xMK; omega), e 0 28 (by unfold xMK; omega), e 0 29 (by unfold xMK; omega), e 0 30 (by unfold xMK; omega)]
  exact h
theorem gML_fr {A A' : Abs} {p : Nat → Nat → Prop} {σ σ' : sgS} (f : Fr p σ σ') (d : ∀ j k, xML j k → ¬ p j k) (eaL : aL A' = aL A) (h : gML A σ) : gML A' σ' := by
  have e : ∀ j k, xML j k → σ'.1 j k = σ.1 j k := fun j k hx => f j k (d j k hx)
  have e' : ∀ j, (∀ k, xML j k) → σ'.1 j = σ.1 j := fun j hj => funext fun k => e j k (hj k)
  unfold gML MLw MLaw at h ⊢
  rw [eaL, e' 2 (fun k => by unfold xML; omega), e' 3 (fun k => by unfold xML; omega), e' 5 (fun k => by unfold xML; omega), e' 6 (fun k => by unfold xML; omega), e' 7 (fun k => by unfold xML; omega), e' 8 (fun k => by unfold xML; omega), e 0 13 (by unfold xML; omega), e 0 36 (by unfold xML; omega)]
  exact h
theorem gMY_fr {A A' : Abs} {p : Nat → Nat → Prop} {σ σ' : sgS} (f : Fr p σ σ') (d : ∀ j k, xMY j k → ¬ p j k) (eaY : aY A' = aY A) (h : gMY A σ) : gMY A' σ' := by
  have e : ∀ j k, xMY j k → σ'.1 j k = σ.1 j k := fun j k hx => f j k (d j k hx)
  have e' : ∀ j, (∀ k, xMY j k) → σ'.1 j = σ.1 j := fun j hj => funext fun k => e j k (hj k)
  unfold gMY MY at h ⊢
  rw [eaY, e' 19 (fun k => by unfold xMY; omega), e' 20 (fun k => by unfold xMY; omega), e 0 33 (by unfold xMY; omega)]
  exact h
theorem gMN_fr {A A' : Abs} {p : Nat → Nat → Prop} {σ σ' : sgS} (f : Fr p σ σ') (d : ∀ j k, xMN j k → ¬ p j k) (eaK : aK A' = aK A) (eaS : aS A' = aS A) (eaG : aG A' = aG A) (h : gMN A σ) : gMN A' σ' := by
  have e : ∀ j k, xMN j k → σ'.1 j k = σ.1 j k := fun j k hx => f j k (d j k hx)
  have e' : ∀ j, (∀ k, xMN j k) → σ'.1 j = σ.1 j := fun j hj => funext fun k => e j k (hj k)
  unfold gMN at h ⊢
  rw [eaK, eaS, eaG, e' 21 (fun k => by unfold xMN; omega)]
  exact h
theorem gMP_fr {A A' : Abs} {p : Nat → Nat → Prop} {σ σ' : sgS} (f : Fr p σ σ') (d : ∀ j k, xMP j k → ¬ p j k) (eaK : aK A' = aK A) (eaN : aN A' = aN A) (eaH : aH A' = aH A) (eaG : aG A' = aG A) (h : gMP A σ) : gMP A' σ' := by
  have e : ∀ j k, xMP j k → σ'.1 j k = σ.1 j k := fun j k hx => f j k (d j k hx)
  have e' : ∀ j, (∀ k, xMP j k) → σ'.1 j = σ.1 j := fun j hj => funext fun k => e j k (hj k)
  unfold gMP MPast at h ⊢
  rw [eaK, eaN, eaH, eaG, e' 25 (fun k => by unfold xMP; omega), e 0 42 (by unfold xMP; omega)]
  exact h
theorem gMI_fr {A A' : Abs} {p : Nat → Nat → Prop} {σ σ' : sgS} (f : Fr p σ σ') (d : ∀ j k, xMI j k → ¬ p j k) (eaK : aK A' = aK A) (eaI : aI A' = aI A) (h : gMI A σ) : gMI A' σ' := by
  have e : ∀ j k, xMI j k → σ'.1 j k = σ.1 j k := fun j k hx => f j k (d j k hx)
  have e' : ∀ j, (∀ k, xMI j k) → σ'.1 j = σ.1 j := fun j hj => funext fun k => e j k (hj k)
  unfold gMI MImg at h ⊢
  rw [eaK, eaI, e' 34 (fun k => by unfold xMI; omega), e 0 57 (by unfold xMI; omega)]
  exact h
theorem gMV_fr {A A' : Abs} {p : Nat → Nat → Prop} {σ σ' : sgS} (f : Fr p σ σ') (d : ∀ j k, xMV j k → ¬ p j k) (eaV : aV A' = aV A) (h : gMV A σ) : gMV A' σ' := by
  have e : ∀ j k, xMV j k → σ'.1 j k = σ.1 j k := fun j k hx => f j k (d j k hx)
  have e' : ∀ j, (∀ k, xMV j k) → σ'.1 j = σ.1 j := fun j hj => funext fun k => e j k (hj k)
  unfold gMV MSeen at h ⊢
  rw [eaV, e' 29 (fun k => by unfold xMV; omega), e' 30 (fun k => by unfold xMV; omega), e' 31 (fun k => by unfold xMV; omega), e' 32 (fun k => by unfold xMV; omega), e 0 54 (by unfold xMV; omega)]
  exact h
theorem gMF_fr {A A' : Abs} {p : Nat → Nat → Prop} {σ σ' : sgS} (f : Fr p σ σ') (d : ∀ j k, xMF j k → ¬ p j k) (eaF : aF A' = aF A) (h : gMF A σ) : gMF A' σ' := by
  have e : ∀ j k, xMF j k → σ'.1 j k = σ.1 j k := fun j k hx => f j k (d j k hx)
  have e' : ∀ j, (∀ k, xMF j k) → σ'.1 j = σ.1 j := fun j hj => funext fun k => e j k (hj k)
  unfold gMF at h ⊢
  rw [eaF, e 0 37 (by unfold xMF; omega)]
  exact h
theorem gMR_fr {A A' : Abs} {p : Nat → Nat → Prop} {σ σ' : sgS} (f : Fr p σ σ') (d : ∀ j k, xMR j k → ¬ p j k) (eaR : aR A' = aR A) (h : gMR A σ) : gMR A' σ' := by
  have e : ∀ j k, xMR j k → σ'.1 j k = σ.1 j k := fun j k hx => f j k (d j k hx)
  have e' : ∀ j, (∀ k, xMR j k) → σ'.1 j = σ.1 j := fun j hj => funext fun k => e j k (hj k)
  unfold gMR at h ⊢
  rw [eaR, e' 22 (fun k => by unfold xMR; omega)]
  exact h
