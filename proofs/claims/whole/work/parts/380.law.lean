/-! A LAW READ: whether, where, and what it gives -/
abbrev PR : Type := Bool × Nat × List (Int32 × Int32)
def opM (c : Nat) : Nat := if c = 42 then 4 else if c = 47 then 5 else 0
def opS (c : Nat) : Nat := if c = 43 then 2 else if c = 45 then 3 else 0
def opA (c : Nat) : Nat := if c = 38 then 10 else 0
def opO (c : Nat) : Nat := if c = 124 then 11 else 0
def opC (c : Nat) : Nat := if c = 61 then 6 else if c = 60 then 7 else if c = 62 then 8 else 0
def opT (op : Nat → Nat) (T : Nat × (Nat → Nat)) (s : Nat) : Nat := if s < T.1 then op (T.2 s) else 0
def ltS (c : Nat) : Nat := if c = 108 then 0 else if c = 100 then 1 else if c = 110 then 2 else if c = 99 then 3 else if c = 114 then 4 else if c = 121 then 5 else 9
def ltT (T : Nat × (Nat → Nat)) (s : Nat) : Nat := if s < T.1 then ltS (T.2 s) else 9
def isT (c : Nat) (T : Nat × (Nat → Nat)) (s : Nat) : Bool := decide (s < T.1 ∧ T.2 s = c)
def puL (T : Nat × (Nat → Nat)) (op : Nat → Nat) (sub : Nat → PR) : Nat → Nat → PR
  | 0, a => (false, a, [])
  | f + 1, a => if opT op T (skp T a) = 0 then (true, skp T a, []) else if (sub (skp T a + 1)).1 = true then ((puL T op sub f (sub (skp T a + 1)).2.1).1, (puL T op sub f (sub (skp T a + 1)).2.1).2.1, (sub (skp T a + 1)).2.2 ++ ((nI (opT op T (skp T a)), 0) :: (puL T op sub f (sub (skp T a + 1)).2.1).2.2)) else (false, (sub (skp T a + 1)).2.1, [])
/-- one, and what goes on behind it -/
def puB (p q : Nat → PR) (a : Nat) : PR := if (p a).1 = true then ((q (p a).2.1).1, (q (p a).2.1).2.1, (p a).2.2 ++ (q (p a).2.1).2.2) else (false, (p a).2.1, [])
def puR (T : Nat × (Nat → Nat)) (op : Nat → Nat) (sub : Nat → PR) (a : Nat) : PR := puL T op sub (T.1 + 1) a
def puX (T : Nat × (Nat → Nat)) (op : Nat → Nat) (sub : Nat → PR) : Nat → PR := puB sub (puR T op sub)
/-- what closes -/
def puE (T : Nat × (Nat → Nat)) (c : Nat) (a : Nat) : PR := if isT c T (skp T a) = true then (true, skp T a + 1, []) else (false, skp T a, [])
def puA (T : Nat × (Nat → Nat)) (rec : Nat → PR) (w a : Nat) : PR :=
  if dgt T (skp T a) = true then (if (nmF T 4 (skp T a) 0).1 = true then (true, (nmF T 4 (skp T a) 0).2.1, [(0, nI (nmF T 4 (skp T a) 0).2.2)]) else (false, (nmF T 4 (skp T a) 0).2.1, []))
  else if ltT T (skp T a) < 9 then (true, skp T a + 1, [(1, nI (ltT T (skp T a)))])
  else if isT 91 T (skp T a) = true ∧ w < 6 then puB rec (puE T 93) (skp T a + 1)
  else (false, skp T a, [])
def puS (T : Nat × (Nat → Nat)) : Nat → Nat → Nat → PR
  | 0, _, a => (false, a, [])
  | d + 1, w, a => puX T opS (puX T opM (puA T (puS T d (w + 1)) w)) a
def puC (T : Nat × (Nat → Nat)) (w a : Nat) : PR := if opT opC T (skp T a) = 0 then (false, skp T a, []) else if (puS T 40 w (skp T a + 1)).1 = true then (true, (puS T 40 w (skp T a + 1)).2.1, (puS T 40 w (skp T a + 1)).2.2 ++ [(nI (opT opC T (skp T a)), 0)]) else (false, (puS T 40 w (skp T a + 1)).2.1, [])
def puN (p : Nat → PR) (a : Nat) : PR := if (p a).1 = true then (true, (p a).2.1, (p a).2.2 ++ [(9, 0)]) else (false, (p a).2.1, [])
def puU (T : Nat × (Nat → Nat)) : Nat → Nat → Nat → PR
  | 0, _, a => (false, a, [])
  | d + 1, w, a => if isT 33 T (skp T a) = true then (if w < 6 then puN (puU T d (w + 1)) (skp T a + 1) else (false, skp T a, [])) else if isT 40 T (skp T a) = true then (if w < 6 then puB (puX T opO (puX T opA (puU T d (w + 1)))) (puE T 41) (skp T a + 1) else (false, skp T a, [])) else puB (puS T 40 w) (puC T w) (skp T a)
/-! it goes on, and gives no more than it takes -/
def pgl (T : Nat × (Nat → Nat)) (e : Nat) (p : Nat → PR) : Prop := ∀ a, a ≤ T.1 → (p a).2.1 ≤ T.1 ∧ ((p a).1 = true → a + e ≤ (p a).2.1 ∧ (p a).2.2.length + a ≤ (p a).2.1 ∧ ∀ z ∈ (p a).2.2, lwI z)
theorem opT_lt {op : Nat → Nat} {T : Nat × (Nat → Nat)} {s : Nat} (h : opT op T s ≠ 0) : s < T.1 ∧ opT op T s = op (T.2 s) := by
  unfold opT at h ⊢
  by_cases c : s < T.1
  · exact ⟨c, by rw [if_pos c]⟩
  · rw [if_neg c] at h; exact absurd rfl h
theorem isT_lt {c : Nat} {T : Nat × (Nat → Nat)} {s : Nat} (h : isT c T s = true) : s < T.1 ∧ T.2 s = c := by
  unfold isT at h
  rw [decide_eq_true_eq] at h
  exact h
def opOk (op : Nat → Nat) : Prop := ∀ c, op c = 0 ∨ (2 ≤ op c ∧ op c ≤ 11)
theorem opM_ok : opOk opM := fun c => by
  unfold opM
  by_cases h1 : c = 42
  · rw [if_pos h1]; exact Or.inr (by decide)
  · rw [if_neg h1]
    by_cases h2 : c = 47
    · rw [if_pos h2]; exact Or.inr (by decide)
    · rw [if_neg h2]; exact Or.inl rfl
theorem opS_ok : opOk opS := fun c => by
  unfold opS
  by_cases h1 : c = 43
  · rw [if_pos h1]; exact Or.inr (by decide)
  · rw [if_neg h1]
    by_cases h2 : c = 45
    · rw [if_pos h2]; exact Or.inr (by decide)
    · rw [if_neg h2]; exact Or.inl rfl
theorem opA_ok : opOk opA := fun c => by
  unfold opA
  by_cases h1 : c = 38
  · rw [if_pos h1]; exact Or.inr (by decide)
  · rw [if_neg h1]; exact Or.inl rfl
theorem opO_ok : opOk opO := fun c => by
  unfold opO
  by_cases h1 : c = 124
  · rw [if_pos h1]; exact Or.inr (by decide)
  · rw [if_neg h1]; exact Or.inl rfl
theorem opC_ok : opOk opC := fun c => by
  unfold opC
  by_cases h1 : c = 61
  · rw [if_pos h1]; exact Or.inr (by decide)
  · rw [if_neg h1]
    by_cases h2 : c = 60
    · rw [if_pos h2]; exact Or.inr (by decide)
    · rw [if_neg h2]
      by_cases h3 : c = 62
      · rw [if_pos h3]; exact Or.inr (by decide)
      · rw [if_neg h3]; exact Or.inl rfl
theorem op_I {op : Nat → Nat} {T : Nat × (Nat → Nat)} {s : Nat} (ho : opOk op) (h : opT op T s ≠ 0) : lwI (nI (opT op T s), 0) := by
  have := opT_lt h
  have h2 := (ho (T.2 s)).resolve_left (fun e => h (by rw [this.2, e]))
  rw [this.2]
  exact Or.inr (Or.inr ⟨_, h2.1, h2.2, rfl⟩)
theorem pgl_L {op : Nat → Nat} {T : Nat × (Nat → Nat)} {sub : Nat → PR} (ho : opOk op) (hs : pgl T 1 sub) : ∀ f a, T.1 - a < f → a ≤ T.1 → (puL T op sub f a).2.1 ≤ T.1 ∧ ((puL T op sub f a).1 = true → a ≤ (puL T op sub f a).2.1 ∧ (puL T op sub f a).2.2.length + a ≤ (puL T op sub f a).2.1 ∧ (∀ z ∈ (puL T op sub f a).2.2, lwI z) ∧ skp T (puL T op sub f a).2.1 = (puL T op sub f a).2.1) := by
  intro f
  induction f with
  | zero => intro a h; omega
  | succ f ih =>
    intro a h1 ha
    have hg := skp_ge (T := T) (a := a)
    have hl := skp_le ha
    unfold puL
    by_cases c : opT op T (skp T a) = 0
    · rw [if_pos c]
      exact ⟨hl, fun _ => ⟨hg, by show 0 + a ≤ skp T a; omega, fun z hz => (by cases hz), skp_id⟩⟩
    · rw [if_neg c]
      have hlt := opT_lt c
      have hh := hs (skp T a + 1) (by omega)
      by_cases c2 : (sub (skp T a + 1)).1 = true
      · rw [if_pos c2]
        have h3 := hh.2 c2
        have h4 := ih (sub (skp T a + 1)).2.1 (by omega) hh.1
        refine ⟨h4.1, fun hk => ?_⟩
        have h5 := h4.2 hk
        refine ⟨by show a ≤ (puL T op sub f (sub (skp T a + 1)).2.1).2.1; omega, ?_, ?_, h5.2.2.2⟩
        · show ((sub (skp T a + 1)).2.2 ++ ((nI (opT op T (skp T a)), 0) :: (puL T op sub f (sub (skp T a + 1)).2.1).2.2)).length + a ≤ (puL T op sub f (sub (skp T a + 1)).2.1).2.1
          rw [List.length_append, List.length_cons]
          omega
        · intro z hz
          rw [List.mem_append, List.mem_cons] at hz
          rcases hz with hz | hz | hz
          · exact h3.2.2 z hz
          · rw [hz]; exact op_I ho c
          · exact h5.2.2.1 z hz
      · rw [if_neg c2]
        exact ⟨hh.1, (fun h => by cases h)⟩
theorem pgl_R {op : Nat → Nat} {T : Nat × (Nat → Nat)} {sub : Nat → PR} (ho : opOk op) (hs : pgl T 1 sub) : pgl T 0 (puR T op sub) := fun a ha => by
  have := pgl_L ho hs (T.1 + 1) a (by omega) ha
  exact ⟨this.1, fun h => ⟨(this.2 h).1, (this.2 h).2.1, (this.2 h).2.2.1⟩⟩
theorem pgl_B {T : Nat × (Nat → Nat)} {p q : Nat → PR} {e : Nat} (hp : pgl T e p) (hq : pgl T 0 q) : pgl T e (puB p q) := by
  intro a ha
  unfold puB
  have h1 := hp a ha
  by_cases c : (p a).1 = true
  · rw [if_pos c]
    have h2 := h1.2 c
    have h3 := hq (p a).2.1 h1.1
    refine ⟨h3.1, fun hk => ?_⟩
    have h4 := h3.2 hk
    refine ⟨by show a + e ≤ (q (p a).2.1).2.1; omega, ?_, ?_⟩
    · show ((p a).2.2 ++ (q (p a).2.1).2.2).length + a ≤ (q (p a).2.1).2.1
      rw [List.length_append]
      omega
    · intro z hz
      rw [List.mem_append] at hz
      rcases hz with hz | hz
      · exact h2.2.2 z hz
      · exact h4.2.2 z hz
  · rw [if_neg c]
    exact ⟨h1.1, (fun h => by cases h)⟩
theorem pgl_X {op : Nat → Nat} {T : Nat × (Nat → Nat)} {sub : Nat → PR} (ho : opOk op) (hs : pgl T 1 sub) : pgl T 1 (puX T op sub) := pgl_B hs (pgl_R ho hs)
theorem pgl_E {T : Nat × (Nat → Nat)} {c : Nat} : pgl T 1 (puE T c) := by
  intro a ha
  have hg := skp_ge (T := T) (a := a)
  have hl := skp_le ha
  unfold puE
  by_cases h : isT c T (skp T a) = true
  · rw [if_pos h]
    have := isT_lt h
    exact ⟨by show skp T a + 1 ≤ T.1; omega, fun _ => ⟨by show a + 1 ≤ skp T a + 1; omega, by show 0 + a ≤ skp T a + 1; omega, fun z hz => (by cases hz)⟩⟩
  · rw [if_neg h]
    exact ⟨hl, (fun h => by cases h)⟩
theorem pgl_0 {T : Nat × (Nat → Nat)} {p : Nat → PR} (h : pgl T 1 p) : pgl T 0 p := fun a ha => ⟨(h a ha).1, fun hk => ⟨by have := ((h a ha).2 hk).1; omega, ((h a ha).2 hk).2⟩⟩
theorem ltT_lt {T : Nat × (Nat → Nat)} {s : Nat} (h : ltT T s < 9) : s < T.1 ∧ ltT T s < 6 := by
  unfold ltT at h ⊢
  by_cases c : s < T.1
  · rw [if_pos c] at h ⊢
    refine ⟨c, ?_⟩
    unfold ltS at h ⊢
    by_cases h1 : T.2 s = 108
    · rw [if_pos h1]; decide
    · rw [if_neg h1] at h ⊢
      by_cases h1 : T.2 s = 100
      · rw [if_pos h1]; decide
      · rw [if_neg h1] at h ⊢
        by_cases h1 : T.2 s = 110
        · rw [if_pos h1]; decide
        · rw [if_neg h1] at h ⊢
          by_cases h1 : T.2 s = 99
          · rw [if_pos h1]; decide
          · rw [if_neg h1] at h ⊢
            by_cases h1 : T.2 s = 114
            · rw [if_pos h1]; decide
            · rw [if_neg h1] at h ⊢
              by_cases h1 : T.2 s = 121
              · rw [if_pos h1]; decide
              · rw [if_neg h1] at h
                exact absurd h (by decide)
  · rw [if_neg c] at h
    exact absurd h (by decide)
theorem pgl_A {T : Nat × (Nat → Nat)} {rec : Nat → PR} {w : Nat} (hr : w < 6 → pgl T 1 rec) : pgl T 1 (puA T rec w) := by
  intro a ha
  have hg := skp_ge (T := T) (a := a)
  have hl := skp_le ha
  unfold puA
  by_cases c1 : dgt T (skp T a) = true
  · rw [if_pos c1]
    have hd := dgt_lt c1
    have hb := nmF_bd (T := T) 4 (skp T a) 0 (by omega)
    have e12 : nmF T 4 (skp T a) 0 = nmF T 3 (skp T a + 1) (10 * 0 + (T.2 (skp T a) - 48)) := nmF_dig (f := 3) c1
    have hb2 := (nmF_bd (T := T) 3 (skp T a + 1) (10 * 0 + (T.2 (skp T a) - 48)) (by omega)).1
    rw [← e12] at hb2
    by_cases c2 : (nmF T 4 (skp T a) 0).1 = true
    · rw [if_pos c2]
      refine ⟨hb.2.1, fun _ => ⟨by show a + 1 ≤ (nmF T 4 (skp T a) 0).2.1; omega, by show 1 + a ≤ (nmF T 4 (skp T a) 0).2.1; omega, fun z hz => ?_⟩⟩
      rw [List.mem_singleton.mp hz]
      exact Or.inl ⟨rfl, _, by have := hb.2.2.2; omega, rfl⟩
    · rw [if_neg c2]
      exact ⟨hb.2.1, (fun h => by cases h)⟩
  · rw [if_neg c1]
    by_cases c2 : ltT T (skp T a) < 9
    · rw [if_pos c2]
      have := ltT_lt c2
      refine ⟨by show skp T a + 1 ≤ T.1; omega, fun _ => ⟨by show a + 1 ≤ skp T a + 1; omega, by show 1 + a ≤ skp T a + 1; omega, fun z hz => ?_⟩⟩
      rw [List.mem_singleton.mp hz]
      exact Or.inr (Or.inl ⟨rfl, _, this.2, rfl⟩)
    · rw [if_neg c2]
      by_cases c3 : isT 91 T (skp T a) = true ∧ w < 6
      · rw [if_pos c3]
        have := isT_lt c3.1
        have h := pgl_B (hr c3.2) (pgl_0 (pgl_E (c := 93))) (skp T a + 1) (by omega)
        exact ⟨h.1, fun hk => ⟨by have := (h.2 hk).1; omega, by have := (h.2 hk).2.1; omega, (h.2 hk).2.2⟩⟩
      · rw [if_neg c3]
        exact ⟨hl, (fun h => by cases h)⟩
theorem pgl_S {T : Nat × (Nat → Nat)} : ∀ d w, 6 < d + w → pgl T 1 (puS T d w) := by
  intro d
  induction d with
  | zero => 
    intro w h a ha
    exact ⟨ha, (fun h => by cases h)⟩
  | succ d ih =>
    intro w h
    exact pgl_X opS_ok (pgl_X opM_ok (pgl_A (fun hw => ih (w + 1) (by omega))))
theorem pgl_C {T : Nat × (Nat → Nat)} {w : Nat} : pgl T 1 (puC T w) := by
  intro a ha
  have hg := skp_ge (T := T) (a := a)
  have hl := skp_le ha
  unfold puC
  by_cases c : opT opC T (skp T a) = 0
  · rw [if_pos c]
    exact ⟨hl, (fun h => by cases h)⟩
  · rw [if_neg c]
    have hlt := opT_lt c
    have hh := pgl_S (T := T) 40 w (by omega) (skp T a + 1) (by omega)
    by_cases c2 : (puS T 40 w (skp T a + 1)).1 = true
    · rw [if_pos c2]
      have h3 := hh.2 c2
      refine ⟨hh.1, fun _ => ⟨by show a + 1 ≤ (puS T 40 w (skp T a + 1)).2.1; omega, ?_, ?_⟩⟩
      · show ((puS T 40 w (skp T a + 1)).2.2 ++ [(nI (opT opC T (skp T a)), 0)]).length + a ≤ (puS T 40 w (skp T a + 1)).2.1
        rw [List.length_append, List.length_singleton]
        omega
      · intro z hz
        rw [List.mem_append, List.mem_singleton] at hz
        rcases hz with hz | hz
        · exact h3.2.2 z hz
        · rw [hz]; exact op_I opC_ok c
    · rw [if_neg c2]
      exact ⟨hh.1, (fun h => by cases h)⟩
theorem pgl_U {T : Nat × (Nat → Nat)} : ∀ d w, 6 < d + w → pgl T 1 (puU T d w) := by
  intro d
  induction d with
  | zero => 
    intro w h a ha
    exact ⟨ha, (fun h => by cases h)⟩
  | succ d ih =>
    intro w h a ha
    have hg := skp_ge (T := T) (a := a)
    have hl := skp_le ha
    unfold puU
    by_cases c1 : isT 33 T (skp T a) = true
    · rw [if_pos c1]
      have hi := isT_lt c1
      by_cases hw : w < 6
      · rw [if_pos hw]
        have hh := ih (w + 1) (by omega) (skp T a + 1) (by omega)
        unfold puN
        by_cases c2 : (puU T d (w + 1) (skp T a + 1)).1 = true
        · rw [if_pos c2]
          have h3 := hh.2 c2
          refine ⟨hh.1, fun _ => ⟨by show a + 1 ≤ (puU T d (w + 1) (skp T a + 1)).2.1; omega, ?_, ?_⟩⟩
          · show ((puU T d (w + 1) (skp T a + 1)).2.2 ++ [(9, 0)]).length + a ≤ (puU T d (w + 1) (skp T a + 1)).2.1
            rw [List.length_append, List.length_singleton]
            omega
          · intro z hz
            rw [List.mem_append, List.mem_singleton] at hz
            rcases hz with hz | hz
            · exact h3.2.2 z hz
            · rw [hz]; exact Or.inr (Or.inr ⟨9, by decide, by decide, rfl⟩)
        · rw [if_neg c2]
          exact ⟨hh.1, (fun h => by cases h)⟩
      · rw [if_neg hw]
        exact ⟨hl, (fun h => by cases h)⟩
    · rw [if_neg c1]
      by_cases c2 : isT 40 T (skp T a) = true
      · rw [if_pos c2]
        have hi := isT_lt c2
        by_cases hw : w < 6
        · rw [if_pos hw]
          have h := pgl_B (pgl_X opO_ok (pgl_X opA_ok (ih (w + 1) (by omega)))) (pgl_0 (pgl_E (c := 41))) (skp T a + 1) (by omega)
          exact ⟨h.1, fun hk => ⟨by have := (h.2 hk).1; omega, by have := (h.2 hk).2.1; omega, (h.2 hk).2.2⟩⟩
        · rw [if_neg hw]
          exact ⟨hl, (fun h => by cases h)⟩
      · rw [if_neg c2]
        have h := pgl_B (pgl_S 40 w (by omega)) (pgl_0 (pgl_C (w := w))) (skp T a) hl
        exact ⟨h.1, fun hk => ⟨by have := (h.2 hk).1; omega, by have := (h.2 hk).2.1; omega, (h.2 hk).2.2⟩⟩
