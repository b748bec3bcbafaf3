/-! WHAT IT GIVES CAN BE WORKED OUT -/
theorem lwTy_app : ∀ (x y : List (Int32 × Int32)) (t t' : List Bool), lwTy x t = some t' → lwTy (x ++ y) t = lwTy y t' := by
  intro x
  induction x with
  | nil =>
    intro y t t' h
    have h : some t = some t' := h
    cases h
    rfl
  | cons q l ih =>
    intro y t t' h
    have h : (match lwTy1 q t with | none => none | some t' => lwTy l t') = some t' := h
    show (match lwTy1 q t with | none => none | some t' => lwTy (l ++ y) t') = _
    cases hq : lwTy1 q t with
    | none => rw [hq] at h; cases h
    | some t2 =>
      rw [hq] at h
      exact ih y t2 t' h
theorem lwTy_one {q : Int32 × Int32} {t t' : List Bool} (h : lwTy1 q t = some t') {l : List (Int32 × Int32)} : lwTy (q :: l) t = lwTy l t' := by
  show (match lwTy1 q t with | none => none | some t' => lwTy l t') = _
  rw [h]
def tyd (T : Nat × (Nat → Nat)) (k : Bool) (b : Nat) (p : Nat → PR) : Prop := ∀ a, a ≤ T.1 → (p a).1 = true → ∀ t : List Bool, t.length + b ≤ 70 → lwTy (p a).2.2 t = some (k :: t)
def opTy (op : Nat → Nat) (k : Bool) : Prop := ∀ c, op c ≠ 0 → ∀ t, lwTy1 (nI (op c), 0) (k :: k :: t) = some (k :: t)
theorem ty4 {c : Nat} (h : c = 2 ∨ c = 3 ∨ c = 4 ∨ c = 5) (t : List Bool) : lwTy1 (nI c, 0) (false :: false :: t) = some (false :: t) := by
  rcases h with rfl | rfl | rfl | rfl <;> rfl
theorem ty6 {c : Nat} (h : c = 6 ∨ c = 7 ∨ c = 8) (t : List Bool) : lwTy1 (nI c, 0) (false :: false :: t) = some (true :: t) := by
  rcases h with rfl | rfl | rfl <;> rfl
theorem ty10 {c : Nat} (h : c = 10 ∨ c = 11) (t : List Bool) : lwTy1 (nI c, 0) (true :: true :: t) = some (true :: t) := by
  rcases h with rfl | rfl <;> rfl
theorem opM_ty : opTy opM false := fun c h t => by
  refine ty4 ?_ t
  unfold opM at h ⊢
  by_cases h1 : c = 42
  · rw [if_pos h1]; decide
  · rw [if_neg h1] at h ⊢
    by_cases h2 : c = 47
    · rw [if_pos h2]; decide
    · rw [if_neg h2] at h; exact absurd rfl h
theorem opS_ty : opTy opS false := fun c h t => by
  refine ty4 ?_ t
  unfold opS at h ⊢
  by_cases h1 : c = 43
  · rw [if_pos h1]; decide
  · rw [if_neg h1] at h ⊢
    by_cases h2 : c = 45
    · rw [if_pos h2]; decide
    · rw [if_neg h2] at h; exact absurd rfl h
theorem opA_ty : opTy opA true := fun c h t => by
  refine ty10 ?_ t
  unfold opA at h ⊢
  by_cases h1 : c = 38
  · rw [if_pos h1]; decide
  · rw [if_neg h1] at h; exact absurd rfl h
theorem opO_ty : opTy opO true := fun c h t => by
  refine ty10 ?_ t
  unfold opO at h ⊢
  by_cases h1 : c = 124
  · rw [if_pos h1]; decide
  · rw [if_neg h1] at h; exact absurd rfl h
theorem ty_L {T : Nat × (Nat → Nat)} {op : Nat → Nat} {sub : Nat → PR} {k : Bool} {b : Nat} (ho : opTy op k) (hg : pgl T 1 sub) (hs : tyd T k b sub) : ∀ f a, a ≤ T.1 → (puL T op sub f a).1 = true → ∀ t : List Bool, t.length + b + 1 ≤ 70 → lwTy (puL T op sub f a).2.2 (k :: t) = some (k :: t) := by
  intro f
  induction f with
  | zero => intro a ha h; cases h
  | succ f ih =>
    intro a ha h t ht
    unfold puL at h ⊢
    by_cases c : opT op T (skp T a) = 0
    · rw [if_pos c]; rfl
    · rw [if_neg c] at h ⊢
      have hlt := opT_lt c
      by_cases c2 : (sub (skp T a + 1)).1 = true
      · rw [if_pos c2] at h ⊢
        have e1 := hs (skp T a + 1) (by omega) c2 (k :: t) (by show t.length + 1 + b ≤ 70; omega)
        show lwTy ((sub (skp T a + 1)).2.2 ++ ((nI (opT op T (skp T a)), 0) :: (puL T op sub f (sub (skp T a + 1)).2.1).2.2)) (k :: t) = _
        rw [lwTy_app _ _ _ _ e1, lwTy_one (by rw [hlt.2]; exact ho (T.2 (skp T a)) (by rw [← hlt.2]; exact c) t)]
        exact ih _ (hg (skp T a + 1) (by omega)).1 h t ht
      · rw [if_neg c2] at h; cases h
theorem ty_X {T : Nat × (Nat → Nat)} {op : Nat → Nat} {sub : Nat → PR} {k : Bool} {b : Nat} (ho : opTy op k) (hg : pgl T 1 sub) (hs : tyd T k b sub) : tyd T k (b + 1) (puX T op sub) := by
  intro a ha h t ht
  unfold puX puB at h ⊢
  by_cases c : (sub a).1 = true
  · rw [if_pos c] at h ⊢
    show lwTy ((sub a).2.2 ++ (puR T op sub (sub a).2.1).2.2) t = _
    rw [lwTy_app _ _ _ _ (hs a ha c t (by omega))]
    exact ty_L ho hg hs _ _ (hg a ha).1 h t (by omega)
  · rw [if_neg c] at h; cases h
theorem ty_E {T : Nat × (Nat → Nat)} {p : Nat → PR} {k : Bool} {b c : Nat} (hs : tyd T k b p) : tyd T k b (puB p (puE T c)) := by
  intro a ha h t ht
  unfold puB at h ⊢
  by_cases c1 : (p a).1 = true
  · rw [if_pos c1] at h ⊢
    show lwTy ((p a).2.2 ++ (puE T c (p a).2.1).2.2) t = _
    have : (puE T c (p a).2.1).2.2 = [] := by unfold puE; split <;> rfl
    rw [this, List.append_nil]
    exact hs a ha c1 t ht
  · rw [if_neg c1] at h; cases h
theorem ty_A {T : Nat × (Nat → Nat)} {rec : Nat → PR} {w b : Nat} (hb : 1 ≤ b) (hr : w < 6 → tyd T false b rec) : tyd T false b (puA T rec w) := by
  intro a ha h t ht
  have push : ∀ q : Int32 × Int32, (q.1 = 0 ∨ q.1 = 1) → lwTy [q] t = some (false :: t) := fun q hq => by
    rw [lwTy_one (show lwTy1 q t = some (false :: t) by unfold lwTy1; rw [if_pos hq, if_pos (by omega)])]
    rfl
  unfold puA at h ⊢
  by_cases c1 : dgt T (skp T a) = true
  · rw [if_pos c1] at h ⊢
    by_cases c2 : (nmF T 4 (skp T a) 0).1 = true
    · rw [if_pos c2]
      exact push _ (Or.inl rfl)
    · rw [if_neg c2] at h; cases h
  · rw [if_neg c1] at h ⊢
    by_cases c2 : ltT T (skp T a) < 9
    · rw [if_pos c2]
      exact push _ (Or.inr rfl)
    · rw [if_neg c2] at h ⊢
      by_cases c3 : isT 91 T (skp T a) = true ∧ w < 6
      · rw [if_pos c3] at h ⊢
        have := isT_lt c3.1
        exact ty_E (hr c3.2) (skp T a + 1) (by omega) h t ht
      · rw [if_neg c3] at h; cases h
theorem ty_S {T : Nat × (Nat → Nat)} : ∀ d w, 6 < d + w → tyd T false (3 + 2 * (6 - w)) (puS T d w) := by
  intro d
  induction d with
  | zero => intro w h a ha hk; cases hk
  | succ d ih =>
    intro w h
    have hA : tyd T false (1 + 2 * (6 - w)) (puA T (puS T d (w + 1)) w) := ty_A (by omega) (fun hw => by
      have := ih (w + 1) (by omega)
      rw [show 1 + 2 * (6 - w) = 3 + 2 * (6 - (w + 1)) by omega]
      exact this)
    have gA : pgl T 1 (puA T (puS T d (w + 1)) w) := pgl_A (fun hw => pgl_S d (w + 1) (by omega))
    have := ty_X opS_ty (pgl_X opM_ok gA) (ty_X opM_ty gA hA)
    rw [show 3 + 2 * (6 - w) = 1 + 2 * (6 - w) + 1 + 1 by omega]
    exact this
theorem ty_C {T : Nat × (Nat → Nat)} {w a : Nat} (h : (puC T w a).1 = true) (t : List Bool) (ht : t.length + 4 + 2 * (6 - w) ≤ 70) : lwTy (puC T w a).2.2 (false :: t) = some (true :: t) := by
  unfold puC at h ⊢
  by_cases c : opT opC T (skp T a) = 0
  · rw [if_pos c] at h; cases h
  · rw [if_neg c] at h ⊢
    have hlt := opT_lt c
    by_cases c2 : (puS T 40 w (skp T a + 1)).1 = true
    · rw [if_pos c2]
      show lwTy ((puS T 40 w (skp T a + 1)).2.2 ++ [(nI (opT opC T (skp T a)), 0)]) (false :: t) = _
      rw [lwTy_app _ _ _ _ (ty_S 40 w (by omega) (skp T a + 1) (by omega) c2 (false :: t) (by show t.length + 1 + _ ≤ 70; omega)), lwTy_one (t' := true :: t) (by
        refine ty6 ?_ t
        rw [hlt.2] at c ⊢
        unfold opC at c ⊢
        by_cases h1 : T.2 (skp T a) = 61
        · rw [if_pos h1]; decide
        · rw [if_neg h1] at c ⊢
          by_cases h2 : T.2 (skp T a) = 60
          · rw [if_pos h2]; decide
          · rw [if_neg h2] at c ⊢
            by_cases h3 : T.2 (skp T a) = 62
            · rw [if_pos h3]; decide
            · rw [if_neg h3] at c; exact absurd rfl c)]
      rfl
    · rw [if_neg c2] at h; cases h
theorem ty_U {T : Nat × (Nat → Nat)} : ∀ d w, 6 < d + w → tyd T true (4 + 2 * (6 - w)) (puU T d w) := by
  intro d
  induction d with
  | zero => intro w h a ha hk; cases hk
  | succ d ih =>
    intro w h a ha hk t ht
    have hl := skp_le ha
    unfold puU at hk ⊢
    by_cases c1 : isT 33 T (skp T a) = true
    · rw [if_pos c1] at hk ⊢
      have hi := isT_lt c1
      by_cases hw : w < 6
      · rw [if_pos hw] at hk ⊢
        unfold puN at hk ⊢
        by_cases c2 : (puU T d (w + 1) (skp T a + 1)).1 = true
        · rw [if_pos c2]
          show lwTy ((puU T d (w + 1) (skp T a + 1)).2.2 ++ [(9, 0)]) t = _
          rw [lwTy_app _ _ _ _ (ih (w + 1) (by omega) (skp T a + 1) (by omega) c2 t (by omega))]
          rfl
        · rw [if_neg c2] at hk; cases hk
      · rw [if_neg hw] at hk; cases hk
    · rw [if_neg c1] at hk ⊢
      by_cases c2 : isT 40 T (skp T a) = true
      · rw [if_pos c2] at hk ⊢
        have hi := isT_lt c2
        by_cases hw : w < 6
        · rw [if_pos hw] at hk ⊢
          have g := pgl_U (T := T) d (w + 1) (by omega)
          exact ty_E (ty_X opO_ty (pgl_X opA_ok g) (ty_X opA_ty g (ih (w + 1) (by omega)))) (skp T a + 1) (by omega) hk t (by omega)
        · rw [if_neg hw] at hk; cases hk
      · rw [if_neg c2] at hk ⊢
        unfold puB at hk ⊢
        by_cases c3 : (puS T 40 w (skp T a)).1 = true
        · rw [if_pos c3] at hk ⊢
          show lwTy ((puS T 40 w (skp T a)).2.2 ++ (puC T w (puS T 40 w (skp T a)).2.1).2.2) t = _
          rw [lwTy_app _ _ _ _ (ty_S 40 w (by omega) (skp T a) hl c3 t (by omega))]
          exact ty_C hk t (by omega)
        · rw [if_neg c3] at hk; cases hk
