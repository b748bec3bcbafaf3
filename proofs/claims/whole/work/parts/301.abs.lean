/-! WHAT BOTH STAND FOR. A county: sizes, hours and coins, customers, ends, length, rough, starts -/
abbrev Cty : Type := (Nat × Nat × Nat) × (Nat × Nat) × (Nat → Nat) × (Nat → Nat) × (Nat → Nat) × (Nat → Nat) × (Nat → Nat) × (Nat → Nat)
def cP (K : Cty) : Nat := K.1.1
def cR (K : Cty) : Nat := K.1.2.1
def cS (K : Cty) : Nat := K.1.2.2
def cH (K : Cty) : Nat := K.2.1.1
def cC (K : Cty) : Nat := K.2.1.2
def cU (K : Cty) : Nat → Nat := K.2.2.1
def cA (K : Cty) : Nat → Nat := K.2.2.2.1
def cB (K : Cty) : Nat → Nat := K.2.2.2.2.1
def cL (K : Cty) : Nat → Nat := K.2.2.2.2.2.1
def cD (K : Cty) : Nat → Nat := K.2.2.2.2.2.2.1
def cT (K : Cty) : Nat → Nat := K.2.2.2.2.2.2.2
/-- ways: how many, how long, their stops -/
abbrev Wys : Type := Nat × (Nat → Nat) × (Nat → Nat → Nat)
def wN (Y : Wys) : Nat := Y.1
def wL (Y : Wys) : Nat → Nat := Y.2.1
def wS (Y : Wys) : Nat → Nat → Nat := Y.2.2
/-- what goes on from day to day: place, way (0 none), behind, gone, calls; closed, coins, day -/
abbrev Sta : Type := ((Nat → Nat) × (Nat → Nat) × (Nat → Nat) × (Nat → Nat) × (Nat → Nat)) × Nat × Nat × Nat
def sP (S : Sta) : Nat → Nat := S.1.1
def sW (S : Sta) : Nat → Nat := S.1.2.1
def sB (S : Sta) : Nat → Nat := S.1.2.2.1
def sG (S : Sta) : Nat → Nat := S.1.2.2.2.1
def sC (S : Sta) : Nat → Nat := S.1.2.2.2.2
def sX (S : Sta) : Nat := S.2.1
def sK (S : Sta) : Nat := S.2.2.1
def sD (S : Sta) : Nat := S.2.2.2
def wI (y : Nat) : Int32 := nI y - 1
theorem wI_0 : wI 0 = -1 := rfl
theorem wI_s {y : Nat} : wI (y + 1) = nI y := by unfold wI; rw [nJ_1, nJ_sub (by omega)]; rfl
/-- a county that holds together -/
def okK (K : Cty) : Prop := cP K ≤ 7 ∧ cR K ≤ 12 ∧ cS K ≤ 4 ∧ (cP K = 0 → cR K = 0 ∧ cS K = 0) ∧ (cP K ≠ 0 → 2 ≤ cP K ∧ 1 ≤ cR K ∧ 1 ≤ cS K ∧ 1 ≤ cH K ∧ cH K ≤ 24 ∧ cC K ≤ 99) ∧ (∀ k, k < cP K → cU K k ≤ 9) ∧ (∀ k, k < cR K → cA K k < cP K ∧ cB K k < cP K ∧ cA K k ≠ cB K k ∧ 1 ≤ cL K k ∧ cL K k ≤ 9 ∧ cD K k ≤ 9) ∧ (∀ k, k < cS K → cT K k < cP K)
def okY (Y : Wys) : Prop := wN Y ≤ 4 ∧ ∀ y, y < wN Y → 2 ≤ wL Y y ∧ wL Y y ≤ 12 ∧ ∀ i, i < wL Y y → wS Y y i ≤ 9
def okS (K : Cty) (Y : Wys) (S : Sta) : Prop := (∀ w, w < cS K → sP S w < cP K ∧ sW S w ≤ wN Y ∧ (sW S w = 0 → sB S w = 0) ∧ (sW S w ≠ 0 → 1 ≤ sB S w ∧ sB S w < wL Y (sW S w - 1))) ∧ (∀ w, cS K ≤ w → w < 4 → sW S w = 0) ∧ (∀ k, k < cR K → sG S k ≤ 999) ∧ (∀ k, k < cP K → sC S k ≤ 999) ∧ sX S < 2 ^ cR K ∧ sK S ≤ 999
/-! where the class keeps it, where the reference does -/
def CK (K : Cty) (σ : sgS) : Prop := σ.1 3 3 = nI (cP K) ∧ σ.1 3 4 = nI (cR K) ∧ σ.1 3 5 = nI (cS K) ∧ (cP K ≠ 0 → σ.1 3 1 = nI (cH K) ∧ σ.1 3 2 = nI (cC K)) ∧ (∀ k, k < cP K → σ.1 4 k = nI (cU K k)) ∧ (∀ k, k < cR K → σ.1 5 k = nI (cA K k) ∧ σ.1 6 k = nI (cB K k) ∧ σ.1 7 k = nI (cL K k) ∧ σ.1 8 k = nI (cD K k)) ∧ (∀ k, k < cS K → σ.1 9 k = nI (cT K k))
def MK (K : Cty) (τ : sgS) : Prop := τ.1 0 28 = nI (cP K) ∧ τ.1 0 29 = nI (cR K) ∧ τ.1 0 30 = nI (cS K) ∧ (cP K ≠ 0 → τ.1 15 0 = nI (cH K) ∧ τ.1 15 1 = nI (cC K)) ∧ (∀ k, k < cP K → τ.1 16 k = nI (cU K k)) ∧ (∀ k, k < cR K → τ.1 17 (4 * k) = nI (cA K k) ∧ τ.1 17 (4 * k + 1) = nI (cB K k) ∧ τ.1 17 (4 * k + 2) = nI (cL K k) ∧ τ.1 17 (4 * k + 3) = nI (cD K k)) ∧ (∀ k, k < cS K → τ.1 18 k = nI (cT K k))
def CY (Y : Wys) (σ : sgS) : Prop := σ.1 29 4 = nI (wN Y) ∧ ∀ y, y < wN Y → σ.1 35 y = nI (wL Y y) ∧ ∀ i, i < wL Y y → σ.1 (31 + y) i = nI (wS Y y i)
def MY (Y : Wys) (τ : sgS) : Prop := τ.1 0 33 = nI (wN Y) ∧ ∀ y, y < wN Y → τ.1 20 y = nI (wL Y y) ∧ ∀ i, i < wL Y y → τ.1 19 (12 * y + i) = nI (wS Y y i)
def CS (K : Cty) (S : Sta) (o : Nat) (σ : sgS) : Prop := (∀ w, w < cS K → σ.1 (o + 1) w = nI (sP S w)) ∧ (∀ w, w < 4 → σ.1 (o + 2) w = wI (sW S w)) ∧ (∀ w, w < cS K → σ.1 (o + 3) w = nI (sB S w)) ∧ (∀ k, k < cR K → σ.1 (o + 4) k = nI (sG S k)) ∧ (∀ k, k < cP K → σ.1 (o + 5) k = nI (sC S k)) ∧ σ.1 o 5 = nI (sX S) ∧ σ.1 o 6 = nI (sK S) ∧ σ.1 o 7 = nI (sD S)
def MS (K : Cty) (S : Sta) (g : Nat → Int32) : Prop := (∀ w, w < cS K → g w = nI (sP S w)) ∧ (∀ w, w < cS K → g (4 + w) = wI (sW S w)) ∧ (∀ w, w < cS K → g (8 + w) = nI (sB S w)) ∧ (∀ k, k < cR K → g (12 + k) = nI (sG S k)) ∧ (∀ k, k < cP K → g (24 + k) = nI (sC S k)) ∧ g 31 = nI (sX S) ∧ g 32 = nI (sK S) ∧ g 33 = nI (sD S)
/-- a log: three numbers for each day from 1 on; the class keeps the rows of days above lo in a ring of 100, the reference the last 60 in order -/
def CLg (L : Nat → Nat → Int32) (lo d : Nat) (R : Nat → Int32) : Prop := ∀ e, lo < e → e ≤ d → ∀ j, j < 3 → R (3 * (e % 100) + j) = L e j
def MLg (L : Nat → Nat → Int32) (d : Nat) (g : Nat → Int32) : Prop := g 34 = nI (min 60 d) ∧ ∀ i, i < min 60 d → ∀ j, j < 3 → g (35 + 3 * (min 60 d - 1 - i) + j) = L (d - i) j
/-! the whole: tape (n, bytes), county, laws (how many, which holds: 0 none; the laws themselves), ways, now, log, acts (how many, the states, from which day the rows are there), image, seen, flood, refusals -/
abbrev Lws : Type := Nat × Nat × (Nat → List (List (Int32 × Int32) × List (Int32 × Int32)))
abbrev Abs : Type := (Nat × (Nat → Nat)) × Cty × Lws × Wys × (Sta × (Nat → Nat → Int32)) × (Nat × (Nat → Sta) × Nat) × (Nat × Sta × (Nat → Nat → Int32)) × (Nat × (Nat → Nat × Nat × Nat × Nat)) × Nat × (Nat → Int32)
def aT (A : Abs) : Nat × (Nat → Nat) := A.1
def aK (A : Abs) : Cty := A.2.1
def aL (A : Abs) : Lws := A.2.2.1
def aY (A : Abs) : Wys := A.2.2.2.1
def aS (A : Abs) : Sta := A.2.2.2.2.1.1
def aG (A : Abs) : Nat → Nat → Int32 := A.2.2.2.2.1.2
def aN (A : Abs) : Nat := A.2.2.2.2.2.1.1
def aH (A : Abs) : Nat → Sta := A.2.2.2.2.2.1.2.1
def aO (A : Abs) : Nat := A.2.2.2.2.2.1.2.2
def aI (A : Abs) : Nat × Sta × (Nat → Nat → Int32) := A.2.2.2.2.2.2.1
def aV (A : Abs) : Nat × (Nat → Nat × Nat × Nat × Nat) := A.2.2.2.2.2.2.2.1
def aF (A : Abs) : Nat := A.2.2.2.2.2.2.2.2.1
def aR (A : Abs) : Nat → Int32 := A.2.2.2.2.2.2.2.2.2
