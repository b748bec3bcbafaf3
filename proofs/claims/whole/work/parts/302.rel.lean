/-! LAWS: a law is a row of clauses, a clause a test (none: empty) and a sum; both in items as the reference has them: a code and a value, in the order in which a stack works them out -/
def lwE (q : Int32 × Int32) : Int32 := if q.1 = 0 then q.2 else if q.1 = 1 then 10000 + q.2 else if q.1 = 2 then 20043 else if q.1 = 3 then 20045 else if q.1 = 4 then 20042 else if q.1 = 5 then 20047 else if q.1 = 6 then 20061 else if q.1 = 7 then 20060 else if q.1 = 8 then 20062 else if q.1 = 9 then 20033 else if q.1 = 10 then 20038 else 20124
/-- an item: a number below 10000, one of six letters, a sign -/
def lwI (q : Int32 × Int32) : Prop := (q.1 = 0 ∧ ∃ v, v < 10000 ∧ q.2 = nI v) ∨ (q.1 = 1 ∧ ∃ v, v < 6 ∧ q.2 = nI v) ∨ ∃ c, 2 ≤ c ∧ c ≤ 11 ∧ q.1 = nI c
/-- which kinds of worths the stack has behind them (true: 0 or 1); never above 70 -/
def lwT1 (t : List Bool) : Option (List Bool) := match t with
  | true :: r => some (true :: r)
  | _ => none
def lwT2 (k rr : Bool) (t : List Bool) : Option (List Bool) := match t with
  | a :: b :: r => if a = k ∧ b = k then some (rr :: r) else none
  | _ => none
theorem lwT1_eq {t t' : List Bool} (h : lwT1 t = some t') : ∃ r, t = true :: r ∧ t' = true :: r := by
  match t, h with
  | true :: r, h => cases h; exact ⟨r, rfl, rfl⟩
  | false :: r, h => cases h
  | [], h => cases h
theorem lwT2_eq {k rr : Bool} {t t' : List Bool} (h : lwT2 k rr t = some t') : ∃ r, t = k :: k :: r ∧ t' = rr :: r := by
  match t, h with
  | a :: b :: r, h =>
    have h : (if a = k ∧ b = k then some (rr :: r) else none) = some t' := h
    by_cases c : a = k ∧ b = k
    · rw [if_pos c] at h
      cases h
      exact ⟨r, by rw [c.1, c.2], rfl⟩
    · rw [if_neg c] at h; cases h
  | [a], h => cases h
  | [], h => cases h
def lwTy1 (q : Int32 × Int32) (t : List Bool) : Option (List Bool) := if q.1 = 0 ∨ q.1 = 1 then (if t.length < 70 then some (false :: t) else none) else if q.1 = 9 then lwT1 t else if q.1 = 10 ∨ q.1 = 11 then lwT2 true true t else if q.1 = 6 ∨ q.1 = 7 ∨ q.1 = 8 then lwT2 false true t else lwT2 false false t
def lwTy : List (Int32 × Int32) → List Bool → Option (List Bool)
  | [], t => some t
  | q :: l, t => match lwTy1 q t with
    | none => none
    | some t' => lwTy l t'
def lwCl (q : List (Int32 × Int32) × List (Int32 × Int32)) : List Int32 := (if q.1 = [] then [] else q.1.map lwE ++ [20063]) ++ q.2.map lwE ++ [20059]
def lwCode (l : List (List (Int32 × Int32) × List (Int32 × Int32))) : List Int32 := l.flatMap lwCl
def lwItems (l : List (List (Int32 × Int32) × List (Int32 × Int32))) : List (Int32 × Int32) := l.flatMap (fun q => q.1 ++ q.2)
def okLaw (l : List (List (Int32 × Int32) × List (Int32 × Int32))) : Prop := (lwCode l).length ≤ 240 ∧ l.length ≤ 139 ∧ ∀ q ∈ l, (∀ z ∈ q.1, lwI z) ∧ (∀ z ∈ q.2, lwI z) ∧ (q.1 ≠ [] → lwTy q.1 [] = some [true]) ∧ lwTy q.2 [] = some [false]
def CLw (W : Lws) (σ : sgS) : Prop := σ.1 21 4 = nI W.1 ∧ σ.1 21 5 = wI W.2.1 ∧ ∀ i, i < W.1 → σ.1 27 i = nI (lwCode (W.2.2 i)).length ∧ ∀ k, k < (lwCode (W.2.2 i)).length → σ.1 (23 + i) k = (lwCode (W.2.2 i)).getD k 0
/-- one law in the reference's row n -/
def MLaw (l : List (List (Int32 × Int32) × List (Int32 × Int32))) (n : Nat) (τ : sgS) : Prop := τ.1 5 n = nI l.length ∧ (∀ k, k < (lwItems l).length → τ.1 2 (520 * n + k) = ((lwItems l).getD k (0, 0)).1 ∧ τ.1 3 (520 * n + k) = ((lwItems l).getD k (0, 0)).2) ∧
  ∀ c, c < l.length → τ.1 6 (140 * n + c) = nI (lwItems (l.take c)).length ∧ τ.1 7 (140 * n + c) = nI ((lwItems (l.take c)).length + (l.getD c ([], [])).1.length) ∧ τ.1 8 (140 * n + c) = nI (lwItems (l.take (c + 1))).length
def MLw (W : Lws) (τ : sgS) : Prop := τ.1 0 13 = nI W.1 ∧ τ.1 0 36 = wI W.2.1 ∧ ∀ i, i < W.1 → MLaw (W.2.2 i) i τ
def okW (W : Lws) : Prop := W.1 ≤ 4 ∧ W.2.1 ≤ W.1 ∧ ∀ i, i < W.1 → okLaw (W.2.2 i)
/-! what holds of all that -/
def aD (A : Abs) (a : Nat) : Nat := if a < aN A then sD (aH A a) else sD (aS A)
def okA (A : Abs) : Prop :=
  ((aT A).1 ≤ 240 ∧ ∀ k, k < (aT A).1 → 1 ≤ (aT A).2 k ∧ (aT A).2 k ≤ 255) ∧ okK (aK A) ∧ okW (aL A) ∧ okY (aY A) ∧ (cP (aK A) = 0 → sD (aS A) = 0 ∧ aN A = 0 ∧ (aI A).1 = 0 ∧ (aV A).1 = 0) ∧ (cP (aK A) ≠ 0 → okS (aK A) (aY A) (aS A)) ∧
  (aN A ≤ 40 ∧ (∀ a, a < aN A → okS (aK A) (aY A) (aH A a)) ∧ (∀ a, a < aN A → aD A a ≤ aD A (a + 1) ∧ aD A (a + 1) ≤ aD A a + 1) ∧ ∀ a, a ≤ aN A → aO A = 0 ∨ aO A + 60 ≤ aD A a) ∧ sD (aS A) ≤ 999 ∧
  ((aI A).1 ≤ 1 ∧ ((aI A).1 ≠ 0 → okS (aK A) (aY A) (aI A).2.1 ∧ sD (aI A).2.1 ≤ 999)) ∧ ((aV A).1 ≤ 10 ∧ ∀ k, k < (aV A).1 → ((aV A).2 k).1 < cS (aK A) ∧ ((aV A).2 k).2.1 < cP (aK A) ∧ 1 ≤ ((aV A).2 k).2.2.1 ∧ ((aV A).2 k).2.2.1 ≤ 9 ∧ ((aV A).2 k).2.2.2 ≤ 1) ∧ aF A ≤ 9
def CPast (A : Abs) (σ : sgS) : Prop := σ.1 52 1 = nI (aN A) ∧ ∃ nx, nx < 40 ∧ σ.1 52 2 = nI nx ∧ ∀ a, a < aN A → CS (aK A) (aH A a) (62 + 6 * ((nx + 40 - aN A + a) % 40)) σ
def CImg (A : Abs) (σ : sgS) : Prop := σ.1 52 6 = nI (aI A).1 ∧ ((aI A).1 ≠ 0 → CS (aK A) (aI A).2.1 55 σ ∧ CLg (aI A).2.2 (sD (aI A).2.1 - 60) (sD (aI A).2.1) (σ.1 61))
def CSeen (A : Abs) (σ : sgS) : Prop := σ.1 320 9 = nI (aV A).1 ∧ ∀ k, k < (aV A).1 → σ.1 321 k = nI ((aV A).2 k).1 ∧ σ.1 322 k = nI ((aV A).2 k).2.1 ∧ σ.1 323 k = nI ((aV A).2 k).2.2.1 ∧ σ.1 324 k = nI ((aV A).2 k).2.2.2
def RelC (A : Abs) (σ : sgS) : Prop :=
  (σ.1 1 1 = nI (aT A).1 ∧ ∀ k, k < (aT A).1 → σ.1 2 k = nI ((aT A).2 k)) ∧ CK (aK A) σ ∧ CLw (aL A) σ ∧ CY (aY A) σ ∧ (cP (aK A) ≠ 0 → CS (aK A) (aS A) 37 σ) ∧ σ.1 37 7 = nI (sD (aS A)) ∧ CLg (aG A) (aO A) (sD (aS A)) (σ.1 54) ∧ CPast A σ ∧ CImg A σ ∧ CSeen A σ ∧ σ.1 0 14 = nI (aF A) ∧ ∀ k, k < 5 → σ.1 331 k = aR A k
def MPast (A : Abs) (τ : sgS) : Prop := τ.1 0 42 = nI (aN A) ∧ ∀ a, a < aN A → MS (aK A) (aH A a) (fun k => τ.1 25 (215 * a + k)) ∧ MLg (aG A) (sD (aH A a)) (fun k => τ.1 25 (215 * a + k))
def MImg (A : Abs) (τ : sgS) : Prop := τ.1 0 57 = nI (aI A).1 ∧ ((aI A).1 ≠ 0 → MS (aK A) (aI A).2.1 (τ.1 34) ∧ MLg (aI A).2.2 (sD (aI A).2.1) (τ.1 34))
def MSeen (A : Abs) (τ : sgS) : Prop := τ.1 0 54 = nI (aV A).1 ∧ ∀ k, k < (aV A).1 → τ.1 29 k = nI ((aV A).2 k).1 ∧ τ.1 30 k = nI ((aV A).2 k).2.1 ∧ τ.1 31 k = nI ((aV A).2 k).2.2.1 ∧ τ.1 32 k = nI ((aV A).2 k).2.2.2
def RelM (A : Abs) (τ : sgS) : Prop :=
  (τ.1 0 2 = nI (aT A).1 ∧ ∀ k, k < (aT A).1 → τ.1 1 k = nI ((aT A).2 k)) ∧ MK (aK A) τ ∧ MLw (aL A) τ ∧ MY (aY A) τ ∧ (cP (aK A) ≠ 0 → MS (aK A) (aS A) (τ.1 21)) ∧ τ.1 21 33 = nI (sD (aS A)) ∧ MLg (aG A) (sD (aS A)) (τ.1 21) ∧ MPast A τ ∧ MImg A τ ∧ MSeen A τ ∧ τ.1 0 37 = nI (aF A) ∧ ∀ k, k < 5 → τ.1 22 k = aR A k
def Rel (σ τ : sgS) : Prop := ∃ A : Abs, okA A ∧ RelC A σ ∧ RelM A τ
/-! frames: what is written lies in p -/
def Fr (p : Nat → Nat → Prop) (σ σ' : sgS) : Prop := ∀ j k, ¬ p j k → σ'.1 j k = σ.1 j k
theorem Fr.rf {p : Nat → Nat → Prop} {σ : sgS} : Fr p σ σ := fun _ _ _ => rfl
theorem Fr.tr {p : Nat → Nat → Prop} {σ σ' σ'' : sgS} (h1 : Fr p σ σ') (h2 : Fr p σ' σ'') : Fr p σ σ'' := fun j k h => (h2 j k h).trans (h1 j k h)
theorem Fr.mono {p q : Nat → Nat → Prop} {σ σ' : sgS} (h : Fr p σ σ') (hpq : ∀ j k, p j k → q j k) : Fr q σ σ' := fun j k hq => h j k (fun hp => hq (hpq j k hp))
theorem Fr.up {p : Nat → Nat → Prop} {σ : sgS} {i k : Nat} {v : Int32} (h : p i k) : Fr p σ (sg_up σ i k v) := fun j q hq => by
  rw [up_get, if_neg]
  rintro ⟨rfl, rfl⟩
  exact hq h
theorem Fr.row {p : Nat → Nat → Prop} {σ : sgS} {i : Nat} {f : Nat → Int32} (h : ∀ k, p i k) : Fr p σ (sg_row σ i f) := fun j q hq => by
  rw [row_get, if_neg]
  rintro rfl
  exact hq (h q)
/-- what the class writes without its being seen; what the reference does -/
def scC (j k : Nat) : Prop := (11 ≤ j ∧ j ≤ 20) ∨ j = 28 ∨ j = 36 ∨ (43 ≤ j ∧ j ≤ 48) ∨ j = 50 ∨ j = 51 ∨ (302 ≤ j ∧ j ≤ 319) ∨ (325 ≤ j ∧ j ≤ 330) ∨ (j = 1 ∧ k = 2) ∨ (j = 21 ∧ k = 3) ∨ (j = 29 ∧ k = 3)
def scM (j k : Nat) : Prop := (j = 0 ∧ (k = 0 ∨ (3 ≤ k ∧ k ≤ 5) ∨ k = 14 ∨ (21 ≤ k ∧ k ≤ 23) ∨ k = 40 ∨ (46 ≤ k ∧ k ≤ 48))) ∨ (9 ≤ j ∧ j ≤ 14) ∨ j = 23 ∨ j = 24 ∨ (26 ≤ j ∧ j ≤ 28) ∨ j = 33
theorem RelC_fr {A : Abs} {σ σ' : sgS} (okn : aN A ≤ 40) (h : RelC A σ) (f : Fr scC σ σ') (hln : (aL A).1 ≤ 4) (hwn : wN (aY A) ≤ 4) : RelC A σ' := by
  have e : ∀ j k, ¬ scC j k → σ'.1 j k = σ.1 j k := f
  have e' : ∀ j, (∀ k, ¬ scC j k) → σ'.1 j = σ.1 j := fun j hj => funext fun k => e j k (hj k)
  have es : ∀ S o, (∀ i, i ≤ 5 → ∀ k, ¬ scC (o + i) k) → CS (aK A) S o σ → CS (aK A) S o σ' := by
    intro S o ho hs
    unfold CS at hs ⊢
    rw [e' (o + 1) (ho 1 (by decide)), e' (o + 2) (ho 2 (by decide)), e' (o + 3) (ho 3 (by decide)), e' (o + 4) (ho 4 (by decide)), e' (o + 5) (ho 5 (by decide)), e' o (ho 0 (by decide))]
    exact hs
  obtain ⟨⟨t1, t2⟩, k, w, y, s, d, g, ⟨p1, nx, p2, p3, p4⟩, ⟨i1, i2⟩, ⟨v1, v2⟩, fl, rf⟩ := h
  refine ⟨⟨?_, fun q hq => ?_⟩, ?_, ?_, ?_, fun hp => es _ _ (fun i hi k => by unfold scC; omega) (s hp), ?_, ?_, ⟨?_, nx, p2, ?_, fun a ha => es _ _ (fun i hi k => by have := Nat.mod_lt (nx + 40 - aN A + a) (show 0 < 40 by decide); unfold scC; omega) (p4 a ha)⟩, ⟨?_, fun hi => ⟨es _ _ (fun i hi k => by unfold scC; omega) (i2 hi).1, ?_⟩⟩, ⟨?_, fun q hq => ?_⟩, ?_, fun q hq => ?_⟩
  · rw [e 1 1 (by unfold scC; omega)]; exact t1
  · rw [e 2 q (by unfold scC; omega)]; exact t2 q hq
  · unfold CK at k ⊢
    rw [e' 3 (fun k => by unfold scC; omega), e' 4 (fun k => by unfold scC; omega), e' 5 (fun k => by unfold scC; omega), e' 6 (fun k => by unfold scC; omega), e' 7 (fun k => by unfold scC; omega), e' 8 (fun k => by unfold scC; omega), e' 9 (fun k => by unfold scC; omega)]
    exact k
  · obtain ⟨w1, w2, w3⟩ := w
    refine ⟨?_, ?_, fun i hi => ?_⟩
    · rw [e 21 4 (by unfold scC; omega)]; exact w1
    · rw [e 21 5 (by unfold scC; omega)]; exact w2
    · rw [e 27 i (by unfold scC; omega)]
      refine ⟨(w3 i hi).1, fun q hq => ?_⟩
      rw [e (23 + i) q (by unfold scC; omega)]
      exact (w3 i hi).2 q hq
  · obtain ⟨y1, y2⟩ := y
    refine ⟨?_, fun i hi => ?_⟩
    · rw [e 29 4 (by unfold scC; omega)]; exact y1
    · rw [e 35 i (by unfold scC; omega)]
      refine ⟨(y2 i hi).1, fun q hq => ?_⟩
      rw [e (31 + i) q (by unfold scC; omega)]
      exact (y2 i hi).2 q hq
  · rw [e 37 7 (by unfold scC; omega)]; exact d
  · rw [e' 54 (fun k => by unfold scC; omega)]; exact g
  · rw [e 52 1 (by unfold scC; omega)]; exact p1
  · rw [e 52 2 (by unfold scC; omega)]; exact p3
  · rw [e 52 6 (by unfold scC; omega)]; exact i1
  · rw [e' 61 (fun k => by unfold scC; omega)]; exact (i2 hi).2
  · rw [e 320 9 (by unfold scC; omega)]; exact v1
  · rw [e 321 q (by unfold scC; omega), e 322 q (by unfold scC; omega), e 323 q (by unfold scC; omega), e 324 q (by unfold scC; omega)]; exact v2 q hq
  · rw [e 0 14 (by unfold scC; omega)]; exact fl
  · rw [e 331 q (by unfold scC; omega)]; exact rf q hq
theorem RelM_fr {A : Abs} {τ τ' : sgS} (h : RelM A τ) (f : Fr scM τ τ') : RelM A τ' := by
  have e : ∀ j k, ¬ scM j k → τ'.1 j k = τ.1 j k := f
  have e' : ∀ j, (∀ k, ¬ scM j k) → τ'.1 j = τ.1 j := fun j hj => funext fun k => e j k (hj k)
  obtain ⟨⟨t1, t2⟩, k, w, y, s, d, g, ⟨p1, p2⟩, ⟨i1, i2⟩, ⟨v1, v2⟩, fl, rf⟩ := h
  refine ⟨⟨?_, fun q hq => ?_⟩, ?_, ?_, ?_, ?_, ?_, ?_, ⟨?_, ?_⟩, ⟨?_, ?_⟩, ⟨?_, fun q hq => ?_⟩, ?_, fun q hq => ?_⟩
  · rw [e 0 2 (by unfold scM; omega)]; exact t1
  · rw [e 1 q (by unfold scM; omega)]; exact t2 q hq
  · unfold MK at k ⊢
    rw [e 0 28 (by unfold scM; omega), e 0 29 (by unfold scM; omega), e 0 30 (by unfold scM; omega), e' 15 (fun k => by unfold scM; omega), e' 16 (fun k => by unfold scM; omega), e' 17 (fun k => by unfold scM; omega), e' 18 (fun k => by unfold scM; omega)]
    exact k
  · unfold MLw MLaw at w ⊢
    rw [e 0 13 (by unfold scM; omega), e 0 36 (by unfold scM; omega), e' 2 (fun k => by unfold scM; omega), e' 3 (fun k => by unfold scM; omega), e' 5 (fun k => by unfold scM; omega), e' 6 (fun k => by unfold scM; omega), e' 7 (fun k => by unfold scM; omega), e' 8 (fun k => by unfold scM; omega)]
    exact w
  · unfold MY at y ⊢
    rw [e 0 33 (by unfold scM; omega), e' 20 (fun k => by unfold scM; omega), e' 19 (fun k => by unfold scM; omega)]
    exact y
  · rw [e' 21 (fun k => by unfold scM; omega)]; exact s
  · rw [e' 21 (fun k => by unfold scM; omega)]; exact d
  · rw [e' 21 (fun k => by unfold scM; omega)]; exact g
  · rw [e 0 42 (by unfold scM; omega)]; exact p1
  · rw [e' 25 (fun k => by unfold scM; omega)]; exact p2
  · rw [e 0 57 (by unfold scM; omega)]; exact i1
  · rw [e' 34 (fun k => by unfold scM; omega)]; exact i2
  · rw [e 0 54 (by unfold scM; omega)]; exact v1
  · rw [e 29 q (by unfold scM; omega), e 30 q (by unfold scM; omega), e 31 q (by unfold scM; omega), e 32 q (by unfold scM; omega)]; exact v2 q hq
  · rw [e 0 37 (by unfold scM; omega)]; exact fl
  · rw [e 22 q (by unfold scM; omega)]; exact rf q hq
