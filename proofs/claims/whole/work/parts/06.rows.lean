/-! the statics that the class reads: five tables, three texts -/
def sg_sn (j : Nat) : String := if j = 0 then "MOST_CLAUSES" else if j = 1 then "FIRST_ITEM" else if j = 2 then "USUAL" else if j = 3 then "LEAST" else "MOST"
def sg_sv (j : Nat) : List Int32 := if j = 0 then [1, 7, 12, 4] else if j = 1 then [0, 2, 3, 7, 8] else if j = 2 then [12, 20, 3, 0, 1, 4, 2, 0] else if j = 3 then [1, 0, 0, 0, 0, 1, 0, 0] else [24, 99, 9, 6, 6, 9, 9, 6]
def sg_ST (P : sgP) (A : Nat → Prop) (U : State) (H : Heap) : Prop :=
  (∀ j, j < 5 → va_Z "RoadWheels$County" (sg_sn j) "[I" (.ref (sgT P j)) A U H ∧ va_T .int (sgT P j) (sg_sv j).length (fun q => .int ((sg_sv j).getD q 0)) A U H) ∧
  vk_S 3 [8, 4, 6] [[104, 107, 99, 97, 98, 108, 100, 115], [115, 112, 114, 119], [108, 100, 110, 99, 114, 121]] (sgK P) (sgV P) A U H ∧
  (vk_R RX0 30 "hkcablds" (sgK P 0) U ∧ vk_R RX0 94 "sprw" (sgK P 1) U ∧ vk_R RX1 11 "ldncry" (sgK P 2) U ∧ vk_R RX3 82 "ldncry" (sgK P 2) U) ∧
  va_Z "java/lang/String" "COMPACT_STRINGS" "Z" (.int 1) A U H ∧ va_Zq "jdk/internal/util/Preconditions" "SIOOBE_FORMATTER" "Ljava/util/function/BiFunction;" A U H
theorem sg_ST_go {P : sgP} {A B : Nat → Prop} {s U : State} {H0 H : Heap} {locs : List Loc} (h : sg_ST P A s H0) (hW : s.WarmedH U.vm) (hS : va_S A H0 H locs) (hAB : ∀ q, B q → A q) : sg_ST P B U H := by
  have hk : ∀ a : Nat, a < H0.size → ¬ A a → H[a]? = H0[a]? := hS.2.1
  obtain ⟨h1, h2, ⟨k1, k2, k3, k4⟩, h4, h5⟩ := h
  exact ⟨fun j hj => ⟨va_Z.moved hW.alike (((h1 j hj).1.kept hk).narrow hAB), va_T.moved hW.alike (((h1 j hj).2.kept hk).narrow hAB)⟩, vk_S.moved hW.alike ((h2.kept hk).narrow hAB), ⟨k1.warm hW, k2.warm hW, k3.warm hW, k4.warm hW⟩, va_Z.moved hW.alike ((h4.kept hk).narrow hAB), va_Zq.moved hW.alike ((h5.kept hk).narrow hAB)⟩
theorem sg_ST_calling {P : sgP} {A : Nat → Prop} {U : State} {H : Heap} {g : JFrame} {mk : MethodId} {a : Array Value} (h : sg_ST P A U H) : sg_ST P A (U.calling g mk a) H := by
  obtain ⟨h1, h2, ⟨k1, k2, k3, k4⟩, h4, h5⟩ := h
  have hv : U.vm.Alike (U.calling g mk a).vm := Vm.Alike.refl U.vm
  exact ⟨fun j hj => ⟨va_Z.moved hv (h1 j hj).1, va_T.moved hv (h1 j hj).2⟩, vk_S.moved hv h2, ⟨vk_R.same (U := U.calling g mk a) rfl k1, vk_R.same (U := U.calling g mk a) rfl k2, vk_R.same (U := U.calling g mk a) rfl k3, vk_R.same (U := U.calling g mk a) rfl k4⟩, va_Z.moved hv h4, va_Zq.moved hv h5⟩
/-! the links of nest mates -/
def sg_isN : Cond → Bool
  | .fieldLinkNest _ _ _ _ _ _ => true
  | .methodLinkNest _ _ _ _ => true
  | _ => false
theorem sg_nws_is : sg_nws.all sg_isN = true := by decide +kernel
def sg_N (U : State) : Prop := ∀ w ∈ sg_nws, va_Nw w U
theorem sg_N_warm {s U : State} (h : sg_N s) (hW : s.WarmedH U.vm) : sg_N U := by
  intro w hw
  have h1 := h w hw
  have h2 := List.all_eq_true.mp sg_nws_is w hw
  cases w <;> first | exact va_Nw.warmF hW h1 | exact va_Nw.warmM hW h1 | (simp [sg_isN] at h2; done)
theorem sg_N_calling {U : State} {g : JFrame} {mk : MethodId} {a : Array Value} (h : sg_N U) : sg_N (U.calling g mk a) := by
  intro w hw
  have h1 := h w hw
  have h2 := List.all_eq_true.mp sg_nws_is w hw
  cases w <;> first | exact va_Nw.same rfl (rfl : U.vm = (U.calling g mk a).vm) h1 | (simp [sg_isN] at h2; done)
theorem sg_goodIn {w : Cond} (h : w ∈ wsL_law) : GoodIn wsL_law (w :: wsL_law) := fun v hv => (List.mem_cons.mp hv).elim (fun e => by subst e; exact ⟨h, good_of_word (wsL_law_gw _ h)⟩) (fun h => ⟨h, good_of_word (wsL_law_gw _ h)⟩)
def sg_ty (P : sgP) : List (ClassId × FieldType) := [(sgC P 0, .int), (sgC P 1, .boolean), (sgC P 2, .object "RoadWheels$State"), (sgC P 3, .array .int)]
def sg_rm (k : Nat) : Room := { frames := k, cells := 0, slots := 0, locals := 60 * k }
/-- what is so in a method from its entry on -/
def sg_C (P : sgP) (A : Nat → Prop) (k : Nat) (p : Program) (R : Room) (s : State) (m : MethodId) (args : Array Value) (c : Code) (cc : ByteArray) (nL : Nat) (own : String) : Prop :=
  CallFix p m c cc nL s args wsL_law own ∧ va_K (sgD P) vwCl (sg_ty P) s ∧ (∀ q, s.heap.size ≤ q → A q) ∧ sg_N s ∧ sg_ST P A s s.heap ∧ k ≤ R.frames ∧ 60 * k ≤ R.locals
/-- what is so of the heap between two instructions -/
def sg_I (P : sgP) (sh : Nat → sgE) (n : Nat) (A : Nat → Prop) (H0 : Heap) (σ : sgS) (H : Heap) (locs : List Loc) : Prop := va_P (sgD P) vwCl (sg_w P sh n σ) H ∧ va_D A (sg_w P sh n σ) ∧ va_S A H0 H locs
def sg_Pre (P : sgP) (sh : Nat → sgE) (n : Nat) (σ : sgS) (sz : Nat) (U : State) : Prop :=
  U.heap.size = sz ∧ va_P (sgD P) vwCl (sg_w P sh n σ) U.heap ∧ va_D (fun _ => True) (sg_w P sh n σ) ∧ va_K (sgD P) vwCl (sg_ty P) U ∧ sg_N U ∧ sg_ST P (sg_A P n sz) U U.heap
/-- the contracts: an int (or boolean) comes back; nothing comes back -/
def sg_Mi (P : sgP) (sh : Nat → sgE) (n : Nat) (l : Launch) (y : MethodName) (cc : ByteArray) (mL : Nat) (ret : Option FieldType) (k : Nat) (avs : List Value) (σ : sgS) (q : Int32 × sgS) : Prop :=
  ∀ sz, Met l y (Cond.code y cc mL ret :: wsL_law) (sg_rm k) (va_Pc avs (sg_Pre P sh n σ sz)) (va_Qi (fun r u => r = q.1 ∧ u = q.2) (fun (u : sgS) t => va_P (sgD P) vwCl (sg_w P sh n u) t.heap) (sg_A P n sz)) 0 0 (sg_A P n sz)
def sg_Mv (P : sgP) (sh : Nat → sgE) (n : Nat) (l : Launch) (y : MethodName) (cc : ByteArray) (mL : Nat) (ret : Option FieldType) (k : Nat) (avs : List Value) (σ : sgS) (q : Int32 × sgS) : Prop :=
  ∀ sz, Met l y (Cond.code y cc mL ret :: wsL_law) (sg_rm k) (va_Pc avs (sg_Pre P sh n σ sz)) (va_Qv (fun u => u = q.2) (fun (u : sgS) t => va_P (sgD P) vwCl (sg_w P sh n u) t.heap) (sg_A P n sz)) 0 0 (sg_A P n sz)
/-! THE PURE SIDE: what a walk works out, in continuations; none where the machine would throw -/
section PUR
variable {α : Type}
def sg_ld (σ : sgS) (i N : Nat) (x : Int32) (K : Int32 → Option α) : Option α := if x < 0 ∨ N ≤ x.toNatClampNeg then none else K (σ.1 i x.toNatClampNeg)
def sg_st (σ : sgS) (i N : Nat) (x v : Int32) (K : sgS → Option α) : Option α := if x < 0 ∨ N ≤ x.toNatClampNeg then none else K (sg_up σ i x.toNatClampNeg v)
def sg_rf (N : Nat) (x : Int32) (K : Nat → Option α) : Option α := if x < 0 ∨ N ≤ x.toNatClampNeg then none else K x.toNatClampNeg
def sg_tb (L : List Int32) (x : Int32) (K : Int32 → Option α) : Option α := if x < 0 ∨ L.length ≤ x.toNatClampNeg then none else K (L.getD x.toNatClampNeg 0)
def sg_pf (σ : sgS) (i k : Nat) (v : Int32) (K : sgS → Option α) : Option α := K (sg_up σ i k v)
def sg_pl (σ : sgS) (i : Nat) (v : Int64) (K : sgS → Option α) : Option α := K (sg_ul σ i v)
def sg_cp (σ : sgS) (i N j M : Nat) (sp dp n : Int32) (K : sgS → Option α) : Option α := if sp < 0 ∨ dp < 0 ∨ n < 0 ∨ N < sp.toNatClampNeg + n.toNatClampNeg ∨ M < dp.toNatClampNeg + n.toNatClampNeg then none else K (sg_row σ j (va_cpy (σ.1 i) (σ.1 j) sp.toNatClampNeg dp.toNatClampNeg n.toNatClampNeg))
def sg_nz (y : Int32) (K : Option α) : Option α := if y = 0 then none else K
def sg_nzl (y : Int64) (K : Option α) : Option α := if y = 0 then none else K
def sg_cl (r : Option (Int32 × sgS)) (K : Int32 → sgS → Option α) : Option α := match r with
  | none => none
  | some q => K q.1 q.2
/-- a loop of at most n turns: what a turn gives is a return, the next turn's state, or the state behind the loop -/
def sg_lp {ρ χ ψ : Type} (b : χ → Option (ρ ⊕ (χ ⊕ ψ))) : Nat → χ → Option (ρ ⊕ ψ)
  | 0, _ => none
  | n + 1, x => match b x with
    | none => none
    | some (.inl r) => some (.inl r)
    | some (.inr (.inl x')) => sg_lp b n x'
    | some (.inr (.inr y)) => some (.inr y)
def sg_lb {ρ ψ : Type} (v : Option (ρ ⊕ ψ)) (kr : ρ → Option α) (ky : ψ → Option α) : Option α := match v with
  | none => none
  | some (.inl r) => kr r
  | some (.inr y) => ky y
def sg_k3 {ρ χ ψ : Type} (a : ρ → Prop) (b : χ → Prop) (c : ψ → Prop) : ρ ⊕ (χ ⊕ ψ) → Prop
  | .inl r => a r
  | .inr (.inl x) => b x
  | .inr (.inr y) => c y
def sg_k2 {ρ ψ : Type} (a : ρ → Prop) (c : ψ → Prop) : ρ ⊕ ψ → Prop
  | .inl r => a r
  | .inr y => c y
theorem sg_lp_W {ρ χ ψ : Type} {a : ρ → Prop} {w : χ → Prop} {c : ψ → Prop} {b : χ → Option (ρ ⊕ (χ ⊕ ψ))} (hb : ∀ x st, b x = some st → sg_k3 a w c st → w x) : ∀ n x res, sg_lp b n x = some res → sg_k2 a c res → w x := by
  intro n
  induction n with
  | zero => intro x res h; cases h
  | succ n ih =>
    intro x res h hk
    unfold sg_lp at h
    cases e : b x with
    | none => rw [e] at h; cases h
    | some st =>
      rw [e] at h
      refine hb x st e ?_
      match st, h with
      | .inl r, h => cases h; exact hk
      | .inr (.inl x'), h => exact ih x' res h hk
      | .inr (.inr y), h => cases h; exact hk
theorem sg_lb_some {ρ ψ : Type} {v : Option (ρ ⊕ ψ)} {kr : ρ → Option α} {ky : ψ → Option α} {st : α} (h : sg_lb v kr ky = some st) : ∃ res, v = some res ∧ sg_k2 (fun r => kr r = some st) (fun y => ky y = some st) res := by
  match v, h with
  | some (.inl r), h => exact ⟨_, rfl, h⟩
  | some (.inr y), h => exact ⟨_, rfl, h⟩
theorem sg_k2_mono {ρ ψ : Type} {a a' : ρ → Prop} {c c' : ψ → Prop} {res : ρ ⊕ ψ} (h : sg_k2 a c res) (ha : ∀ r, a r → a' r) (hc : ∀ y, c y → c' y) : sg_k2 a' c' res := by
  match res, h with
  | .inl r, h => exact ha r h
  | .inr y, h => exact hc y h
theorem sg_ift {c : Prop} {d : Decidable c} {a b r : α} (h : (if c then a else b) = r) (hc : c) : a = r := by rw [if_pos hc] at h; exact h
theorem sg_iff {c : Prop} {d : Decidable c} {a b r : α} (h : (if c then a else b) = r) (hc : ¬ c) : b = r := by rw [if_neg hc] at h; exact h
end PUR
/-! a field that an instruction names: class ci of vwCl, slot k -/
def sg_F (own : String) (index ci k : Nat) : Prop := ∃ (C : String) (T : u_T) (N : Nat), vwCl[ci]? = some (C, T, N) ∧ (∀ w ∈ u_ws C T N, w ∈ wsL_law) ∧ k < N ∧ Cond.fieldLink own index (T k).1 (T k).2.1 (T k).2.2.1 ∈ wsL_law
def sg_FN (own : String) (index ci k : Nat) : Prop := ∃ (C : String) (T : u_T) (N : Nat) (host : String), vwCl[ci]? = some (C, T, N) ∧ (∀ w ∈ u_ws C T N, w ∈ wsL_law) ∧ k < N ∧ Cond.fieldLinkNest own index (T k).1 (T k).2.1 (T k).2.2.1 host ∈ sg_nws
/-- a class's tables, for the stores: types, names, which fields are no finals -/
def sg_tyOf (ci : Nat) : Nat → FieldType := if ci = 0 then tyX0 else if ci = 1 then tyX1 else if ci = 2 then tyX2 else if ci = 3 then tyX3 else if ci = 4 then tyX4 else if ci = 5 then tyX5 else if ci = 6 then tyX6 else if ci = 7 then tyX7 else if ci = 8 then tyX8 else if ci = 9 then tyX9 else if ci = 10 then tyX10 else if ci = 11 then tyX11 else tyX12
def sg_G (ci : Nat) : Prop := ∀ (C : String) (T : u_T) (N : Nat), vwCl[ci]? = some (C, T, N) → (∀ k, k < N → parseFieldDescriptor (T k).2.2.1 = some (sg_tyOf ci k)) ∧ (∀ a, a < N → ∀ b, b < N → a ≠ b → (T a).2.1 ≠ (T b).2.1)
/-- a field that may be stored into, of type ty -/
def sg_W (ci k : Nat) (ty : FieldType) : Prop := sg_G ci ∧ ∃ (C : String) (T : u_T) (N : Nat), vwCl[ci]? = some (C, T, N) ∧ (T k).2.2.2 = false ∧ parseFieldDescriptor (T k).2.2.1 = some ty
section ROW
variable {p : Program} {l : Launch} {e : Env} {R : Room} {s : State} {m : MethodId} {args : Array Value} {below : List Frame} {meth : Method} {c : Code} {H : Heap} {locs : List Loc} {cells slots : Nat} {Q : State → Prop}
variable {cc : ByteArray} {pc nL kk0 : Nat} {own : String} {ls : Array Slot} {rest : List Value} {P : sgP} {sh : Nat → sgE} {n : Nat} {A : Nat → Prop} {σ : sgS} {α : Type} {st : α}
theorem sg_geti (X : sg_C P A kk0 p R s m args c cc nL own) (I : sg_I P sh n A s.heap σ H locs) {index ci k i : Nat} (F : sg_F own index ci k) {ks : List Nat} (hi : i < n) (hsh : sh i = .inl (ci, ks)) (hk : ks[k]? = some 0) (hdg : decode cc pc = .ok (.getfield index, 3))
    (kk : W p l e R s m args below meth c H locs cells slots Q (F0 m (pc + 3) ls (.int (σ.1 i k) :: rest))) : W p l e R s m args below meth c H locs cells slots Q (F0 m pc ls (.ref (sgA P i) :: rest)) := by
  obtain ⟨C, T, N, hc, hin, hN, hl⟩ := F
  obtain ⟨⟨hx, hb, hml, hown, hts⟩, hK, -⟩ := X
  refine va_get (D := sgD P) (C := C) (T := T) (N := N) hx hb hts hin hown hK I.1 i (sg_obj hi hsh) hc k hN (hts _ hl) (fun _ h9 => h9) (v := .int (σ.1 i k)) ?_ hdg kk
  rw [sg_fl_get ks 0 k 0 hk, Nat.zero_add]
  rfl
theorem sg_getr (X : sg_C P A kk0 p R s m args c cc nL own) (I : sg_I P sh n A s.heap σ H locs) {index ci k i : Nat} (F : sg_F own index ci k) {ks : List Nat} {j : Nat} (hi : i < n) (hsh : sh i = .inl (ci, ks)) (hk : ks[k]? = some (j + 3)) (hdg : decode cc pc = .ok (.getfield index, 3))
    (kk : W p l e R s m args below meth c H locs cells slots Q (F0 m (pc + 3) ls (.ref (sgA P j) :: rest))) : W p l e R s m args below meth c H locs cells slots Q (F0 m pc ls (.ref (sgA P i) :: rest)) := by
  obtain ⟨C, T, N, hc, hin, hN, hl⟩ := F
  obtain ⟨⟨hx, hb, hml, hown, hts⟩, hK, -⟩ := X
  refine va_get (D := sgD P) (C := C) (T := T) (N := N) hx hb hts hin hown hK I.1 i (sg_obj hi hsh) hc k hN (hts _ hl) (fun _ h9 => h9) (v := .ref (sgA P j)) ?_ hdg kk
  rw [sg_fl_get ks 0 k _ hk]
  rfl
theorem sg_getl (X : sg_C P A kk0 p R s m args c cc nL own) (I : sg_I P sh n A s.heap σ H locs) {index ci k i : Nat} (F : sg_F own index ci k) {ks : List Nat} (hi : i < n) (hsh : sh i = .inl (ci, ks)) (hk : ks[k]? = some 1) (hdg : decode cc pc = .ok (.getfield index, 3))
    (kk : W p l e R s m args below meth c H locs cells slots Q (F0 m (pc + 3) ls (.long (σ.2 i) :: rest))) : W p l e R s m args below meth c H locs cells slots Q (F0 m pc ls (.ref (sgA P i) :: rest)) := by
  obtain ⟨C, T, N, hc, hin, hN, hl⟩ := F
  obtain ⟨⟨hx, hb, hml, hown, hts⟩, hK, -⟩ := X
  refine va_get (D := sgD P) (C := C) (T := T) (N := N) hx hb hts hin hown hK I.1 i (sg_obj hi hsh) hc k hN (hts _ hl) (fun _ h9 => h9) (v := .long (σ.2 i)) ?_ hdg kk
  rw [sg_fl_get ks 0 k _ hk]
  rfl
theorem sg_getiN (X : sg_C P A kk0 p R s m args c cc nL own) (I : sg_I P sh n A s.heap σ H locs) {index ci k i : Nat} (F : sg_FN own index ci k) {ks : List Nat} (hi : i < n) (hsh : sh i = .inl (ci, ks)) (hk : ks[k]? = some 0) (hdg : decode cc pc = .ok (.getfield index, 3))
    (kk : W p l e R s m args below meth c H locs cells slots Q (F0 m (pc + 3) ls (.int (σ.1 i k) :: rest))) : W p l e R s m args below meth c H locs cells slots Q (F0 m pc ls (.ref (sgA P i) :: rest)) := by
  obtain ⟨C, T, N, host, hc, hin, hN, hl⟩ := F
  obtain ⟨⟨hx, hb, hml, hown, hts⟩, hK, -, hZ, -⟩ := X
  refine va_getN (D := sgD P) (C := C) (T := T) (N := N) (host := host) hx hb hts hin hown hK I.1 i (sg_obj hi hsh) hc k hN (va_Nw.use rfl (hZ _ hl)) (fun _ h9 => h9) (v := .int (σ.1 i k)) ?_ hdg kk
  rw [sg_fl_get ks 0 k 0 hk, Nat.zero_add]
  rfl
theorem sg_getrN (X : sg_C P A kk0 p R s m args c cc nL own) (I : sg_I P sh n A s.heap σ H locs) {index ci k i : Nat} (F : sg_FN own index ci k) {ks : List Nat} {j : Nat} (hi : i < n) (hsh : sh i = .inl (ci, ks)) (hk : ks[k]? = some (j + 3)) (hdg : decode cc pc = .ok (.getfield index, 3))
    (kk : W p l e R s m args below meth c H locs cells slots Q (F0 m (pc + 3) ls (.ref (sgA P j) :: rest))) : W p l e R s m args below meth c H locs cells slots Q (F0 m pc ls (.ref (sgA P i) :: rest)) := by
  obtain ⟨C, T, N, host, hc, hin, hN, hl⟩ := F
  obtain ⟨⟨hx, hb, hml, hown, hts⟩, hK, -, hZ, -⟩ := X
  refine va_getN (D := sgD P) (C := C) (T := T) (N := N) (host := host) hx hb hts hin hown hK I.1 i (sg_obj hi hsh) hc k hN (va_Nw.use rfl (hZ _ hl)) (fun _ h9 => h9) (v := .ref (sgA P j)) ?_ hdg kk
  rw [sg_fl_get ks 0 k _ hk]
  rfl
theorem sg_puti (X : sg_C P A kk0 p R s m args c cc nL own) (I : sg_I P sh n A s.heap σ H locs) {index ci k i : Nat} (F : sg_F own index ci k) {ty : FieldType} (G : sg_W ci k ty) {v : Int32} (hn : narrow ty (.int v) = .int v) (hf : fits ty (.int v) = true) {ks : List Nat} (hi : i < n) (hsh : sh i = .inl (ci, ks)) (hk : ks[k]? = some 0) {K : sgS → Option α} (h : sg_pf σ i k v K = some st) (hdg : decode cc pc = .ok (.putfield index, 3))
    (kk : ∀ (σ : sgS) (H : Heap) (locs : List Loc), K σ = some st → sg_I P sh n A s.heap σ H locs → W p l e R s m args below meth c H locs cells slots Q (F0 m (pc + 3) ls rest)) : W p l e R s m args below meth c H locs cells slots Q (F0 m pc ls (.int v :: .ref (sgA P i) :: rest)) := by
  obtain ⟨C, T, N, hc, hin, hN, hl⟩ := F
  obtain ⟨⟨hx, hb, hml, hown, hts⟩, hK, -⟩ := X
  obtain ⟨G1, C', T', N', hc', hfin, hd⟩ := G
  have ec : (C, T, N) = (C', T', N') := Option.some.inj (hc.symm.trans hc')
  cases ec
  obtain ⟨hty, hnm⟩ := G1 C T N hc
  refine va_put (D := sgD P) (C := C) (T := T) (N := N) hx hb hts hin (sg_tyOf ci) hty hnm hown hK I.1 I.2.1 I.2.2 i (sg_obj hi hsh) hc k hN (hts _ hl) (fun _ h9 => h9) hfin hd hn hf (by rw [sg_fl_len]; exact (List.getElem?_eq_some_iff.mp hk).1) hdg (fun H1 locs1 h1 h2 h3 => ?_)
  rw [sg_set_obj hi hsh hk] at h1 h2
  exact kk (sg_up σ i k v) H1 locs1 h ⟨h1, h2, h3⟩
theorem sg_putiN (X : sg_C P A kk0 p R s m args c cc nL own) (I : sg_I P sh n A s.heap σ H locs) {index ci k i : Nat} (F : sg_FN own index ci k) {ty : FieldType} (G : sg_W ci k ty) {v : Int32} (hn : narrow ty (.int v) = .int v) (hf : fits ty (.int v) = true) {ks : List Nat} (hi : i < n) (hsh : sh i = .inl (ci, ks)) (hk : ks[k]? = some 0) {K : sgS → Option α} (h : sg_pf σ i k v K = some st) (hdg : decode cc pc = .ok (.putfield index, 3))
    (kk : ∀ (σ : sgS) (H : Heap) (locs : List Loc), K σ = some st → sg_I P sh n A s.heap σ H locs → W p l e R s m args below meth c H locs cells slots Q (F0 m (pc + 3) ls rest)) : W p l e R s m args below meth c H locs cells slots Q (F0 m pc ls (.int v :: .ref (sgA P i) :: rest)) := by
  obtain ⟨C, T, N, host, hc, hin, hN, hl⟩ := F
  obtain ⟨⟨hx, hb, hml, hown, hts⟩, hK, -, hZ, -⟩ := X
  obtain ⟨G1, C', T', N', hc', hfin, hd⟩ := G
  have ec : (C, T, N) = (C', T', N') := Option.some.inj (hc.symm.trans hc')
  cases ec
  obtain ⟨hty, hnm⟩ := G1 C T N hc
  refine va_putN (D := sgD P) (C := C) (T := T) (N := N) (host := host) hx hb hts hin (sg_tyOf ci) hty hnm hown hK I.1 I.2.1 I.2.2 i (sg_obj hi hsh) hc k hN (va_Nw.use rfl (hZ _ hl)) (fun _ h9 => h9) hfin hd hn hf (by rw [sg_fl_len]; exact (List.getElem?_eq_some_iff.mp hk).1) hdg (fun H1 locs1 h1 h2 h3 => ?_)
  rw [sg_set_obj hi hsh hk] at h1 h2
  exact kk (sg_up σ i k v) H1 locs1 h ⟨h1, h2, h3⟩
theorem sg_putl (X : sg_C P A kk0 p R s m args c cc nL own) (I : sg_I P sh n A s.heap σ H locs) {index ci k i : Nat} (F : sg_F own index ci k) (G : sg_W ci k .long) {v : Int64} {ks : List Nat} (hi : i < n) (hsh : sh i = .inl (ci, ks)) (hk : ks[k]? = some 1) (hk1 : 1 ∉ ks.take k) (hk2 : 1 ∉ ks.drop (k + 1)) {K : sgS → Option α} (h : sg_pl σ i v K = some st) (hdg : decode cc pc = .ok (.putfield index, 3))
    (kk : ∀ (σ : sgS) (H : Heap) (locs : List Loc), K σ = some st → sg_I P sh n A s.heap σ H locs → W p l e R s m args below meth c H locs cells slots Q (F0 m (pc + 3) ls rest)) : W p l e R s m args below meth c H locs cells slots Q (F0 m pc ls (.long v :: .ref (sgA P i) :: rest)) := by
  obtain ⟨C, T, N, hc, hin, hN, hl⟩ := F
  obtain ⟨⟨hx, hb, hml, hown, hts⟩, hK, -⟩ := X
  obtain ⟨G1, C', T', N', hc', hfin, hd⟩ := G
  have ec : (C, T, N) = (C', T', N') := Option.some.inj (hc.symm.trans hc')
  cases ec
  obtain ⟨hty, hnm⟩ := G1 C T N hc
  refine va_put (D := sgD P) (C := C) (T := T) (N := N) hx hb hts hin (sg_tyOf ci) hty hnm hown hK I.1 I.2.1 I.2.2 i (sg_obj hi hsh) hc k hN (hts _ hl) (fun _ h9 => h9) hfin hd (v := .long v) rfl rfl (by rw [sg_fl_len]; exact (List.getElem?_eq_some_iff.mp hk).1) hdg (fun H1 locs1 h1 h2 h3 => ?_)
  rw [sg_set_objL hi hsh hk hk1 hk2] at h1 h2
  exact kk (sg_ul σ i v) H1 locs1 h ⟨h1, h2, h3⟩
theorem sg_iald (X : sg_C P A kk0 p R s m args c cc nL own) (I : sg_I P sh n A s.heap σ H locs) {i N : Nat} {g : Nat → Nat} {x : Int32} (hi : i < n) (hsh : sh i = .inr (0, N, g)) {K : Int32 → Option α} (h : sg_ld σ i N x K = some st) (hdg : decode cc pc = .ok (.iaload, 1))
    (kk : ∀ v : Int32, K v = some st → W p l e R s m args below meth c H locs cells slots Q (F0 m (pc + 1) ls (.int v :: rest))) : W p l e R s m args below meth c H locs cells slots Q (F0 m pc ls (.int x :: .ref (sgA P i) :: rest)) := by
  by_cases hin : x < 0 ∨ N ≤ x.toNatClampNeg
  · rw [sg_ld, if_pos hin] at h; cases h
  · rw [sg_ld, if_neg hin] at h
    exact va_iald (D := sgD P) X.1.1 X.1.2.1 X.2.1 I.1 i 0 (sg_arr hi hsh (by decide)) rfl hin hdg (kk _ h)
theorem sg_zald (X : sg_C P A kk0 p R s m args c cc nL own) (I : sg_I P sh n A s.heap σ H locs) {i N : Nat} {g : Nat → Nat} {x : Int32} (hi : i < n) (hsh : sh i = .inr (1, N, g)) {K : Int32 → Option α} (h : sg_ld σ i N x K = some st) (hdg : decode cc pc = .ok (.baload, 1))
    (kk : ∀ v : Int32, K v = some st → W p l e R s m args below meth c H locs cells slots Q (F0 m (pc + 1) ls (.int v :: rest))) : W p l e R s m args below meth c H locs cells slots Q (F0 m pc ls (.int x :: .ref (sgA P i) :: rest)) := by
  by_cases hin : x < 0 ∨ N ≤ x.toNatClampNeg
  · rw [sg_ld, if_pos hin] at h; cases h
  · rw [sg_ld, if_neg hin] at h
    exact va_zald (D := sgD P) X.1.1 X.1.2.1 X.2.1 I.1 i 1 (sg_arr hi hsh (by decide)) rfl hin hdg (kk _ h)
theorem sg_iast (X : sg_C P A kk0 p R s m args c cc nL own) (I : sg_I P sh n A s.heap σ H locs) {i N : Nat} {g : Nat → Nat} {x v : Int32} (hi : i < n) (hsh : sh i = .inr (0, N, g)) {K : sgS → Option α} (h : sg_st σ i N x v K = some st) (hdg : decode cc pc = .ok (.iastore, 1))
    (kk : ∀ (σ : sgS) (H : Heap) (locs : List Loc), K σ = some st → sg_I P sh n A s.heap σ H locs → W p l e R s m args below meth c H locs cells slots Q (F0 m (pc + 1) ls rest)) : W p l e R s m args below meth c H locs cells slots Q (F0 m pc ls (.int v :: .int x :: .ref (sgA P i) :: rest)) := by
  by_cases hin : x < 0 ∨ N ≤ x.toNatClampNeg
  · rw [sg_st, if_pos hin] at h; cases h
  · rw [sg_st, if_neg hin] at h
    refine va_iast (D := sgD P) X.1.1 X.1.2.1 X.2.1 I.1 I.2.1 I.2.2 i 0 (sg_arr hi hsh (by decide)) rfl hin hdg (fun H1 locs1 h1 h2 h3 => ?_)
    rw [sg_set_arr hi hsh (by decide)] at h1 h2
    exact kk _ H1 locs1 h ⟨h1, h2, h3⟩
theorem sg_zast (X : sg_C P A kk0 p R s m args c cc nL own) (I : sg_I P sh n A s.heap σ H locs) {i N : Nat} {g : Nat → Nat} {x v : Int32} (hi : i < n) (hsh : sh i = .inr (1, N, g)) {K : sgS → Option α} (h : sg_st σ i N x (vp_nar .boolean v) K = some st) (hdg : decode cc pc = .ok (.bastore, 1))
    (kk : ∀ (σ : sgS) (H : Heap) (locs : List Loc), K σ = some st → sg_I P sh n A s.heap σ H locs → W p l e R s m args below meth c H locs cells slots Q (F0 m (pc + 1) ls rest)) : W p l e R s m args below meth c H locs cells slots Q (F0 m pc ls (.int v :: .int x :: .ref (sgA P i) :: rest)) := by
  by_cases hin : x < 0 ∨ N ≤ x.toNatClampNeg
  · rw [sg_st, if_pos hin] at h; cases h
  · rw [sg_st, if_neg hin] at h
    refine va_zast (D := sgD P) X.1.1 X.1.2.1 X.2.1 I.1 I.2.1 I.2.2 i 1 (sg_arr hi hsh (by decide)) rfl hin hdg (fun H1 locs1 h1 h2 h3 => ?_)
    rw [sg_set_arr hi hsh (by decide)] at h1 h2
    exact kk _ H1 locs1 h ⟨h1, h2, h3⟩
theorem sg_aald (X : sg_C P A kk0 p R s m args c cc nL own) (I : sg_I P sh n A s.heap σ H locs) {i N : Nat} {g : Nat → Nat} {x : Int32} (hi : i < n) (hsh : sh i = .inr (2, N, g)) {r : Nat → Nat} (hg : ∀ j, j < N → g j = r j + 1) {K : Nat → Option α} (h : sg_rf N x K = some st) (hdg : decode cc pc = .ok (.aaload, 1))
    (kk : ∀ j : Nat, j < N → K j = some st → W p l e R s m args below meth c H locs cells slots Q (F0 m (pc + 1) ls (.ref (sgA P (r j)) :: rest))) : W p l e R s m args below meth c H locs cells slots Q (F0 m pc ls (.int x :: .ref (sgA P i) :: rest)) := by
  by_cases hin : x < 0 ∨ N ≤ x.toNatClampNeg
  · rw [sg_rf, if_pos hin] at h; cases h
  · rw [sg_rf, if_neg hin] at h
    have hlt : x.toNatClampNeg < N := Nat.not_le.mp fun q => hin (Or.inr q)
    have e9 : va_rf (if g x.toNatClampNeg = 0 then none else some (sgA P (g x.toNatClampNeg - 1))) = .ref (sgA P (r x.toNatClampNeg)) := by
      rw [hg _ hlt, if_neg (Nat.succ_ne_zero _), Nat.add_sub_cancel]
      rfl
    refine va_aldq (D := sgD P) (C := "RoadWheels$State") X.1.1 X.1.2.1 X.2.1 I.1 i 2 (sg_rar hi hsh (by decide)) rfl hin hdg ?_
    rw [e9]
    exact kk _ hlt h
theorem sg_aalda (X : sg_C P A kk0 p R s m args c cc nL own) (I : sg_I P sh n A s.heap σ H locs) {i N : Nat} {g : Nat → Nat} {x : Int32} (hi : i < n) (hsh : sh i = .inr (3, N, g)) {r : Nat → Nat} (hg : ∀ j, j < N → g j = r j + 1) {K : Nat → Option α} (h : sg_rf N x K = some st) (hdg : decode cc pc = .ok (.aaload, 1))
    (kk : ∀ j : Nat, j < N → K j = some st → W p l e R s m args below meth c H locs cells slots Q (F0 m (pc + 1) ls (.ref (sgA P (r j)) :: rest))) : W p l e R s m args below meth c H locs cells slots Q (F0 m pc ls (.int x :: .ref (sgA P i) :: rest)) := by
  by_cases hin : x < 0 ∨ N ≤ x.toNatClampNeg
  · rw [sg_rf, if_pos hin] at h; cases h
  · rw [sg_rf, if_neg hin] at h
    have hlt : x.toNatClampNeg < N := Nat.not_le.mp fun q => hin (Or.inr q)
    have hP := I.1
    have e9 : va_rf (if g x.toNatClampNeg = 0 then none else some (sgA P (g x.toNatClampNeg - 1))) = .ref (sgA P (r x.toNatClampNeg)) := by
      rw [hg _ hlt, if_neg (Nat.succ_ne_zero _), Nat.add_sub_cancel]
      rfl
    exact W.aald (v := .ref (sgA P (r x.toNatClampNeg))) (ty := .array .int) X.1.1 X.1.2.1 (hP i _ (sg_rar hi hsh (by decide))) ((X.2.1.2 3 _ rfl).1 N (fun j => va_rf (if g j = 0 then none else some (sgA P (g j - 1))))) rfl (fun q => by cases q) (by show ¬ (x < 0 ∨ (arrV _ _ _).slots.size ≤ _); rw [arrV_size]; exact hin) (by show (arrV _ _ _).slots[_]? = _; rw [arrV_read _ _ hlt, ← e9]) rfl rfl hdg (kk _ hlt h)
theorem sg_alen (X : sg_C P A kk0 p R s m args c cc nL own) (I : sg_I P sh n A s.heap σ H locs) {i N : Nat} {g : Nat → Nat} (hi : i < n) (hsh : sh i = .inr (0, N, g)) {v : Int32} (hv : Int32.ofNat N = v) (hdg : decode cc pc = .ok (.arraylength, 1))
    (kk : W p l e R s m args below meth c H locs cells slots Q (F0 m (pc + 1) ls (.int v :: rest))) : W p l e R s m args below meth c H locs cells slots Q (F0 m pc ls (.ref (sgA P i) :: rest)) :=
  va_alen (D := sgD P) X.1.1 X.1.2.1 X.2.1 I.1 i 0 (sg_arr hi hsh (by decide)) rfl hv hdg kk
theorem sg_copy (X : sg_C P A kk0 p R s m args c cc nL own) (I : sg_I P sh n A s.heap σ H locs) (hls : ls.size = nL) (hkk : 1 ≤ kk0) {index : Nat} (hlink : Cond.methodLink own index arraycopyName ∈ wsL_law) (hw : Cond.native arraycopyName ∈ wsL_law ∧ Cond.static arraycopyName ∈ wsL_law ∧ Cond.initialized "java/lang/System" ∈ wsL_law)
    {i j N M : Nat} {g g' : Nat → Nat} (hi : i < n) (hj : j < n) (hsh : sh i = .inr (0, N, g)) (hsh' : sh j = .inr (0, M, g')) {sp dp nn : Int32} {K : sgS → Option α} (h : sg_cp σ i N j M sp dp nn K = some st) (hrest : (rest.map fun v => v.category).sum ≤ 8) (hdg : decode cc pc = .ok (.invokestatic index, 3))
    (kk : ∀ (σ : sgS) (H : Heap) (locs : List Loc), K σ = some st → sg_I P sh n A s.heap σ H locs → W p l e R s m args below meth c H locs cells slots Q (F0 m (pc + 3) ls rest)) : W p l e R s m args below meth c H locs cells slots Q (F0 m pc ls (.int nn :: .int dp :: .ref (sgA P j) :: .int sp :: .ref (sgA P i) :: rest)) := by
  obtain ⟨⟨hx, hb, hml, hown, hts⟩, hK, -, -, -, hr1, hr2⟩ := X
  by_cases hin : sp < 0 ∨ dp < 0 ∨ nn < 0 ∨ N < sp.toNatClampNeg + nn.toNatClampNeg ∨ M < dp.toNatClampNeg + nn.toNatClampNeg
  · rw [sg_cp, if_pos hin] at h; cases h
  · rw [sg_cp, if_neg hin] at h
    simp only [not_or] at hin
    obtain ⟨h1, h2, h3, h4, h5⟩ := hin
    refine va_copyi (D := sgD P) (ty := .int) hx hb (hml.trans hls.symm) hown (hts _ hlink) (hts _ hw.1) (hts _ hw.2.1) (hts _ hw.2.2) hK I.1 I.2.1 I.2.2 i j 0 0 (sg_arr hi hsh (by decide)) (sg_arr hj hsh' (by decide)) rfl rfl rfl h1 h2 h3 (Nat.not_lt.mp h4) (Nat.not_lt.mp h5) (fun _ _ => rfl) (Nat.le_trans hkk hr1) ?_ hdg (fun H1 locs1 h1 h2 h3 => ?_)
    · have : nativeFrameWords "java/lang/System" "arraycopy" 5 = 7 := by decide +kernel
      rw [this]
      omega
    · rw [sg_set_arr hj hsh' (by decide)] at h1 h2
      exact kk _ H1 locs1 h ⟨h1, h2, h3⟩
/-- a table's entry -/
theorem sg_tab (X : sg_C P A kk0 p R s m args c cc nL own) (I : sg_I P sh n A s.heap σ H locs) {j : Nat} (hj : j < 5) {x : Int32} {K : Int32 → Option α} (h : sg_tb (sg_sv j) x K = some st) (hdg : decode cc pc = .ok (.iaload, 1))
    (kk : ∀ v : Int32, K v = some st → W p l e R s m args below meth c H locs cells slots Q (F0 m (pc + 1) ls (.int v :: rest))) : W p l e R s m args below meth c H locs cells slots Q (F0 m pc ls (.int x :: .ref (sgT P j) :: rest)) := by
  by_cases hin : x < 0 ∨ (sg_sv j).length ≤ x.toNatClampNeg
  · rw [sg_tb, if_pos hin] at h; cases h
  · rw [sg_tb, if_neg hin] at h
    exact va_ti X.1.1 X.1.2.1 (X.2.2.2.2.1.1 j hj).2 I.2.2 hin rfl hdg (kk _ h)
theorem sg_gets (X : sg_C P A kk0 p R s m args c cc nL own) (I : sg_I P sh n A s.heap σ H locs) {j index : Nat} (hj : j < 5) (hl : Cond.fieldLink own index "RoadWheels$County" (sg_sn j) "[I" ∈ wsL_law) (hdg : decode cc pc = .ok (.getstatic index, 3))
    (kk : W p l e R s m args below meth c H locs cells slots Q (F0 m (pc + 3) ls (.ref (sgT P j) :: rest))) : W p l e R s m args below meth c H locs cells slots Q (F0 m pc ls rest) :=
  va_gets X.1.1 X.1.2.1 (X.2.2.2.2.1.1 j hj).1 I.2.2 X.1.2.2.2.1 (X.1.2.2.2.2 _ hl) (fun _ h => h) hdg kk
end ROW
