/-! WORLDS OF A FIXED SHAPE. Cell i of n stands at the address sgA P i; what it is (an object of a class with its kinds of fields, or an array) says sh i; what its whole numbers are says σ.1 i k (field or place k), its long σ.2 i. References never change. -/
abbrev sgS : Type := (Nat → Nat → Int32) × (Nat → Int64)
abbrev sgE : Type := (Nat × List Nat) ⊕ (Nat × Nat × (Nat → Nat))
abbrev sgP : Type := (Nat → ClassId) × (Nat → Nat → Nat) × (Nat → ClassId) × (Nat → Nat) × (Nat → Nat) × (Nat → Nat) × (Nat → Nat)
def sgD (P : sgP) : va_G := (P.1, P.2.1)
def sgC (P : sgP) (t : Nat) : ClassId := P.2.2.1 t
def sgA (P : sgP) (i : Nat) : Nat := P.2.2.2.1 i
def sgT (P : sgP) (i : Nat) : Nat := P.2.2.2.2.1 i
def sgK (P : sgP) (i : Nat) : Nat := P.2.2.2.2.2.1 i
def sgV (P : sgP) (i : Nat) : Nat := P.2.2.2.2.2.2 i
def sg_row (σ : sgS) (i : Nat) (f : Nat → Int32) : sgS := (fun a => if a = i then f else σ.1 a, σ.2)
def sg_up (σ : sgS) (i k : Nat) (v : Int32) : sgS := sg_row σ i (upd (σ.1 i) k v)
def sg_ul (σ : sgS) (i : Nat) (v : Int64) : sgS := (σ.1, fun a => if a = i then v else σ.2 a)
def sg_fv (ad : Nat → Nat) (f : Nat → Int32) (L : Int64) (k : Nat) : Nat → Value
  | 0 => .int (f k)
  | 1 => .long L
  | 2 => .null
  | j + 3 => .ref (ad j)
def sg_fl (ad : Nat → Nat) (f : Nat → Int32) (L : Int64) : Nat → List Nat → List Value
  | _, [] => []
  | k, t :: ks => sg_fv ad f L k t :: sg_fl ad f L (k + 1) ks
theorem sg_fl_get {ad : Nat → Nat} {f : Nat → Int32} {L : Int64} : ∀ (ks : List Nat) (k0 k t : Nat), ks[k]? = some t → (sg_fl ad f L k0 ks)[k]? = some (sg_fv ad f L (k0 + k) t) := by
  intro ks
  induction ks with
  | nil => intro k0 k t h; simp at h
  | cons a ks ih =>
    intro k0 k t h
    cases k with
    | zero => simp at h; subst h; rfl
    | succ k =>
      rw [List.getElem?_cons_succ] at h
      have := ih (k0 + 1) k t h
      rw [show k0 + 1 + k = k0 + (k + 1) by omega] at this
      show (sg_fv ad f L k0 a :: sg_fl ad f L (k0 + 1) ks)[k + 1]? = _
      rw [List.getElem?_cons_succ]
      exact this
theorem sg_fl_len {ad : Nat → Nat} {f : Nat → Int32} {L : Int64} : ∀ (ks : List Nat) (k0 : Nat), (sg_fl ad f L k0 ks).length = ks.length := by
  intro ks
  induction ks with
  | nil => intro k0; rfl
  | cons a ks ih => intro k0; show (_ :: sg_fl ad f L (k0 + 1) ks).length = _; rw [List.length_cons, List.length_cons, ih]
theorem sg_fl_congr {ad : Nat → Nat} {f f' : Nat → Int32} {L : Int64} : ∀ (ks : List Nat) (k0 : Nat), (∀ q, k0 ≤ q → f q = f' q) → sg_fl ad f L k0 ks = sg_fl ad f' L k0 ks := by
  intro ks
  induction ks with
  | nil => intro k0 h; rfl
  | cons a ks ih =>
    intro k0 h
    show sg_fv ad f L k0 a :: sg_fl ad f L (k0 + 1) ks = sg_fv ad f' L k0 a :: sg_fl ad f' L (k0 + 1) ks
    rw [ih (k0 + 1) (fun q hq => h q (by omega))]
    congr 1
    match a with
    | 0 => show Value.int (f k0) = Value.int (f' k0); rw [h k0 (Nat.le_refl _)]
    | 1 => rfl
    | 2 => rfl
    | j + 3 => rfl
theorem sg_fl_set {ad : Nat → Nat} {f : Nat → Int32} {L : Int64} {v : Int32} : ∀ (ks : List Nat) (k0 k : Nat), ks[k]? = some 0 → (sg_fl ad f L k0 ks).set k (.int v) = sg_fl ad (upd f (k0 + k) v) L k0 ks := by
  intro ks
  induction ks with
  | nil => intro k0 k h; simp at h
  | cons a ks ih =>
    intro k0 k h
    show (sg_fv ad f L k0 a :: sg_fl ad f L (k0 + 1) ks).set k _ = sg_fv ad (upd f (k0 + k) v) L k0 a :: sg_fl ad (upd f (k0 + k) v) L (k0 + 1) ks
    cases k with
    | zero =>
      simp at h
      subst h
      rw [List.set_cons_zero]
      congr 1
      · show Value.int v = Value.int (upd f (k0 + 0) v k0)
        simp [upd]
      · exact sg_fl_congr ks (k0 + 1) (fun q hq => by simp [upd]; intro e; omega)
    | succ k =>
      rw [List.getElem?_cons_succ] at h
      rw [List.set_cons_succ, ih (k0 + 1) k h, show k0 + 1 + k = k0 + (k + 1) by omega]
      congr 1
      match a with
      | 0 =>
        show Value.int (f k0) = Value.int (upd f (k0 + (k + 1)) v k0)
        rw [show upd f (k0 + (k + 1)) v k0 = f k0 by simp [upd]]
      | 1 => rfl
      | 2 => rfl
      | j + 3 => rfl
theorem sg_fl_congrL {ad : Nat → Nat} {f : Nat → Int32} {L L' : Int64} : ∀ (ks : List Nat) (k0 : Nat), 1 ∉ ks → sg_fl ad f L k0 ks = sg_fl ad f L' k0 ks := by
  intro ks
  induction ks with
  | nil => intro k0 h; rfl
  | cons a ks ih =>
    intro k0 h
    show sg_fv ad f L k0 a :: sg_fl ad f L (k0 + 1) ks = sg_fv ad f L' k0 a :: sg_fl ad f L' (k0 + 1) ks
    rw [ih (k0 + 1) (fun q => h (List.mem_cons_of_mem _ q))]
    congr 1
    match a, h with
    | 0, _ => rfl
    | 1, h => exact absurd List.mem_cons_self h
    | 2, _ => rfl
    | j + 3, _ => rfl
theorem sg_fl_setL {ad : Nat → Nat} {f : Nat → Int32} {L v : Int64} : ∀ (ks : List Nat) (k0 k : Nat), ks[k]? = some 1 → 1 ∉ ks.take k → 1 ∉ ks.drop (k + 1) → (sg_fl ad f L k0 ks).set k (.long v) = sg_fl ad f v k0 ks := by
  intro ks
  induction ks with
  | nil => intro k0 k h; simp at h
  | cons a ks ih =>
    intro k0 k h h1 h2
    show (sg_fv ad f L k0 a :: sg_fl ad f L (k0 + 1) ks).set k _ = sg_fv ad f v k0 a :: sg_fl ad f v (k0 + 1) ks
    cases k with
    | zero =>
      simp at h
      subst h
      rw [List.set_cons_zero]
      congr 1
      exact sg_fl_congrL ks (k0 + 1) (by simpa using h2)
    | succ k =>
      rw [List.getElem?_cons_succ] at h
      simp only [List.take_succ_cons, List.mem_cons, not_or] at h1
      simp only [List.drop_succ_cons] at h2
      rw [List.set_cons_succ, ih (k0 + 1) k h h1.2 h2]
      congr 1
      match a, h1 with
      | 0, _ => rfl
      | 1, h1 => exact absurd rfl h1.1
      | 2, _ => rfl
      | j + 3, _ => rfl
def sg_ar (P : sgP) (f : Nat → Int32) (t n : Nat) (g : Nat → Nat) : va_E := if t < 2 then .inl (sgC P t, n, .inl f) else .inl (sgC P t, n, .inr (.inr (.inr (.inr (fun k => if g k = 0 then none else some (sgA P (g k - 1)))))))
def sg_ent (P : sgP) (sh : Nat → sgE) (σ : sgS) (i : Nat) : va_E := match sh i with
  | .inl q => .inr (q.1, sg_fl (sgA P) (σ.1 i) (σ.2 i) 0 q.2)
  | .inr q => sg_ar P (σ.1 i) q.1 q.2.1 q.2.2
def sg_w (P : sgP) (sh : Nat → sgE) (n : Nat) (σ : sgS) : va_W := (List.range n).map (fun i => (sgA P i, sg_ent P sh σ i))
theorem sg_at {P : sgP} {sh : Nat → sgE} {n : Nat} {σ : sgS} {i : Nat} (h : i < n) : (sg_w P sh n σ)[i]? = some (sgA P i, sg_ent P sh σ i) := by
  unfold sg_w
  rw [List.getElem?_map, List.getElem?_range h]
  rfl
theorem sg_no {P : sgP} {sh : Nat → sgE} {n : Nat} {σ : sgS} {i : Nat} (h : ¬ i < n) : (sg_w P sh n σ)[i]? = none := by
  apply List.getElem?_eq_none
  unfold sg_w
  rw [List.length_map, List.length_range]
  omega
theorem sg_obj {P : sgP} {sh : Nat → sgE} {n : Nat} {σ : sgS} {i ci : Nat} {ks : List Nat} (h : i < n) (e : sh i = .inl (ci, ks)) : (sg_w P sh n σ)[i]? = some (sgA P i, .inr (ci, sg_fl (sgA P) (σ.1 i) (σ.2 i) 0 ks)) := by
  rw [sg_at h]
  unfold sg_ent
  rw [e]
theorem sg_arr {P : sgP} {sh : Nat → sgE} {n : Nat} {σ : sgS} {i t N : Nat} {g : Nat → Nat} (h : i < n) (e : sh i = .inr (t, N, g)) (ht : t < 2) : (sg_w P sh n σ)[i]? = some (sgA P i, .inl (sgC P t, N, .inl (σ.1 i))) := by
  rw [sg_at h]
  unfold sg_ent
  rw [e]
  show some (sgA P i, sg_ar P (σ.1 i) t N g) = _
  rw [sg_ar, if_pos ht]
theorem sg_rar {P : sgP} {sh : Nat → sgE} {n : Nat} {σ : sgS} {i t N : Nat} {g : Nat → Nat} (h : i < n) (e : sh i = .inr (t, N, g)) (ht : ¬ t < 2) : (sg_w P sh n σ)[i]? = some (sgA P i, .inl (sgC P t, N, .inr (.inr (.inr (.inr (fun k => if g k = 0 then none else some (sgA P (g k - 1)))))))) := by
  rw [sg_at h]
  unfold sg_ent
  rw [e]
  show some (sgA P i, sg_ar P (σ.1 i) t N g) = _
  rw [sg_ar, if_neg ht]
theorem sg_set {P : sgP} {sh : Nat → sgE} {n : Nat} {σ σ' : sgS} {i : Nat} {x : va_E} (h : i < n) (hx : sg_ent P sh σ' i = x) (ho : ∀ j, j ≠ i → sg_ent P sh σ' j = sg_ent P sh σ j) : (sg_w P sh n σ).set i (sgA P i, x) = sg_w P sh n σ' := by
  apply List.ext_getElem?
  intro j
  have hl : i < (sg_w P sh n σ).length := by unfold sg_w; rw [List.length_map, List.length_range]; exact h
  by_cases hj : j = i
  · subst hj
    rw [List.getElem?_set_self hl, sg_at h, hx]
  · rw [List.getElem?_set_ne (Ne.symm hj)]
    by_cases hn : j < n
    · rw [sg_at hn, sg_at hn, ho j hj]
    · rw [sg_no hn, sg_no hn]
theorem sg_row_ne {P : sgP} {sh : Nat → sgE} {σ : sgS} {i : Nat} {f : Nat → Int32} (j : Nat) (h : j ≠ i) : sg_ent P sh (sg_row σ i f) j = sg_ent P sh σ j := by
  have e1 : (sg_row σ i f).1 j = σ.1 j := if_neg h
  have e2 : (sg_row σ i f).2 = σ.2 := rfl
  unfold sg_ent
  rw [e1, e2]
theorem sg_ul_ne {P : sgP} {sh : Nat → sgE} {σ : sgS} {i : Nat} {v : Int64} (j : Nat) (h : j ≠ i) : sg_ent P sh (sg_ul σ i v) j = sg_ent P sh σ j := by
  have e1 : (sg_ul σ i v).1 = σ.1 := rfl
  have e2 : (sg_ul σ i v).2 j = σ.2 j := if_neg h
  unfold sg_ent
  rw [e1, e2]
theorem sg_row_at {σ : sgS} {i : Nat} {f : Nat → Int32} : (sg_row σ i f).1 i = f := if_pos rfl
theorem sg_row_nt {σ : sgS} {i j : Nat} {f : Nat → Int32} (h : j ≠ i) : (sg_row σ i f).1 j = σ.1 j := if_neg h
theorem sg_set_arr {P : sgP} {sh : Nat → sgE} {n : Nat} {σ : sgS} {i t N : Nat} {g : Nat → Nat} {f : Nat → Int32} (h : i < n) (e : sh i = .inr (t, N, g)) (ht : t < 2) : (sg_w P sh n σ).set i (sgA P i, .inl (sgC P t, N, .inl f)) = sg_w P sh n (sg_row σ i f) := by
  refine sg_set h ?_ sg_row_ne
  unfold sg_ent
  rw [e]
  show sg_ar P ((sg_row σ i f).1 i) t N g = _
  rw [sg_row_at, sg_ar, if_pos ht]
theorem sg_set_obj {P : sgP} {sh : Nat → sgE} {n : Nat} {σ : sgS} {i ci k : Nat} {ks : List Nat} {v : Int32} (h : i < n) (e : sh i = .inl (ci, ks)) (hk : ks[k]? = some 0) : (sg_w P sh n σ).set i (sgA P i, .inr (ci, (sg_fl (sgA P) (σ.1 i) (σ.2 i) 0 ks).set k (.int v))) = sg_w P sh n (sg_up σ i k v) := by
  refine sg_set h ?_ sg_row_ne
  rw [sg_fl_set ks 0 k hk, Nat.zero_add]
  unfold sg_ent sg_up
  rw [e]
  show Sum.inr (ci, sg_fl (sgA P) ((sg_row σ i (upd (σ.1 i) k v)).1 i) (σ.2 i) 0 ks) = _
  rw [sg_row_at]
theorem sg_set_objL {P : sgP} {sh : Nat → sgE} {n : Nat} {σ : sgS} {i ci k : Nat} {ks : List Nat} {v : Int64} (h : i < n) (e : sh i = .inl (ci, ks)) (hk : ks[k]? = some 1) (h1 : 1 ∉ ks.take k) (h2 : 1 ∉ ks.drop (k + 1)) : (sg_w P sh n σ).set i (sgA P i, .inr (ci, (sg_fl (sgA P) (σ.1 i) (σ.2 i) 0 ks).set k (.long v))) = sg_w P sh n (sg_ul σ i v) := by
  refine sg_set h ?_ sg_ul_ne
  rw [sg_fl_setL ks 0 k hk h1 h2]
  unfold sg_ent
  rw [e]
  show Sum.inr (ci, sg_fl (sgA P) (σ.1 i) ((sg_ul σ i v).2 i) 0 ks) = _
  rw [show (sg_ul σ i v).2 i = v from if_pos rfl]
/-- the addresses don't speak of the contents -/
theorem sg_D {P : sgP} {sh : Nat → sgE} {n : Nat} {σ : sgS} (σ' : sgS) {A : Nat → Prop} (h : va_D A (sg_w P sh n σ)) : va_D A (sg_w P sh n σ') := by
  have key : ∀ (i : Nat) (q : Nat × va_E), (sg_w P sh n σ')[i]? = some q → ∃ q', (sg_w P sh n σ)[i]? = some q' ∧ q'.1 = q.1 := by
    intro i q hq
    by_cases hn : i < n
    · rw [sg_at hn] at hq
      cases hq
      exact ⟨_, sg_at hn, rfl⟩
    · rw [sg_no hn] at hq
      cases hq
  refine ⟨fun i j a b hi hj hab => ?_, fun k q hk => ?_⟩
  · obtain ⟨a', h1, e1⟩ := key i a hi
    obtain ⟨b', h2, e2⟩ := key j b hj
    exact h.1 i j a' b' h1 h2 (by rw [e1, e2, hab])
  · obtain ⟨q', h1, e1⟩ := key k q hk
    rw [← e1]
    exact h.2 k q' h1
/-- a world's own addresses, and all that come from sz on -/
def sg_A (P : sgP) (n sz : Nat) : Nat → Prop := fun q => (∃ i, i < n ∧ q = sgA P i) ∨ sz ≤ q
theorem sg_A_of {P : sgP} {sh : Nat → sgE} {n sz : Nat} {σ : sgS} {B : Nat → Prop} (h : va_D B (sg_w P sh n σ)) : va_D (sg_A P n sz) (sg_w P sh n σ) := by
  refine ⟨h.1, fun k q hk => ?_⟩
  by_cases hn : k < n
  · rw [sg_at hn] at hk
    cases hk
    exact Or.inl ⟨k, hn, rfl⟩
  · rw [sg_no hn] at hk
    cases hk
theorem sg_A_sub {P : sgP} {sh : Nat → sgE} {n : Nat} {σ : sgS} {A : Nat → Prop} {H0 H : Heap} {locs : List Loc} (hD : va_D A (sg_w P sh n σ)) (hS : va_S A H0 H locs) (hA : ∀ q, H0.size ≤ q → A q) : ∀ q, sg_A P n H.size q → A q := by
  intro q h
  rcases h with ⟨i, hi, rfl⟩ | h
  · exact hD.2 i _ (sg_at hi)
  · exact hA q (Nat.le_trans hS.1 h)
