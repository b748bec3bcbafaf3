/-! THE LAW: three worlds side by side (the class's 332 cells, the reference's 35, the law's own long[1]), and calls that keep the others -/
def lw_Eq (Rel : sgS → sgS → Prop) (F G : Nat → sgS → Option (Int32 × sgS)) : Prop := ∀ σ τ, Rel σ τ → ∃ (N M : Nat) (r : Int32) (σ' τ' : sgS), F N σ = some (r, σ') ∧ G M τ = some (r, τ') ∧ Rel σ' τ'
def lw_up (o : Option Int32) (σ : sgS) : Option (Int32 × sgS) := match o with
  | none => none
  | some v => some (v, σ)
theorem lw_up_eq {o : Option Int32} {σ σ' : sgS} {r : Int32} (h : lw_up o σ = some (r, σ')) : o = some r ∧ σ' = σ := by
  cases o with
  | none => cases h
  | some v => cases h; exact ⟨rfl, rfl⟩
def lw_Wh (Rel : sgS → sgS → Prop) (p1 p2 : Int32) : Prop := ∀ σ τ, Rel σ τ → ∃ (N M K : Nat) (q : Option Int32) (b k : Int32) (τ' : sgS), f_X11_wheels N p1 p2 σ = some q ∧ f_X12_wheels M p1 p2 τ = some (b, τ') ∧ f_X12_thrown K τ' = some k ∧ Rel σ τ' ∧ ((q = none ∧ k = 1) ∨ (q = some b ∧ k = 0))
def lw_A (s : State) : Nat → Prop := fun q => s.heap.size ≤ q
/-- what is so in the law from the loop's begin on -/
def lw_X (p : Program) (s : State) (m : MethodId) (c : Code) (b L : Nat) (xs : Nat → Int32) (P Pm : sgP) (cL : ClassId) : Prop :=
  sg_C P (lw_A s) 1400 p room_1 s m #[Value.ref b] c cL_law 7 RL ∧ sg_C Pm (lw_A s) 1400 p room_1 s m #[Value.ref b] c cL_law 7 RL ∧ va_K (sgD P) vwCl [(cL, .long)] s ∧ sg_EX (lw_A s) s s.heap ∧ va_X b L xs s s.heap ∧ b < s.heap.size ∧ sgD Pm = sgD P ∧ (∀ i, sgA P i = s.heap.size + i) ∧ (∀ j, sgA Pm j = s.heap.size + 332 + j)
def lw_o (s : State) : Nat := s.heap.size + 367
def lw_I (s : State) (P Pm : sgP) (cL : ClassId) (σ τ : sgS) (f : Nat → Int64) (H : Heap) (locs : List Loc) : Prop :=
  va_P (sgD P) vwCl (sg_w P shC 332 σ) H ∧ va_P (sgD P) vwCl (sg_w Pm shM 35 τ) H ∧ va_P (sgD P) vwCl [sg_lo (lw_o s) cL f] H ∧ va_S (lw_A s) s.heap H locs
theorem lw_Dw {P : sgP} {sh : Nat → sgE} {n B : Nat} {σ : sgS} {A : Nat → Prop} (h : ∀ i, sgA P i = B + i) (hA : ∀ q, B ≤ q → A q) : va_D A (sg_w P sh n σ) := by
  refine ⟨fun i j x y hi hj e => ?_, fun k q hk => ?_⟩
  · have hin : i < n := by have := (List.getElem?_eq_some_iff.mp hi).1; rwa [sg_w_len] at this
    have hjn : j < n := by have := (List.getElem?_eq_some_iff.mp hj).1; rwa [sg_w_len] at this
    rw [sg_at hin] at hi
    rw [sg_at hjn] at hj
    cases hi
    cases hj
    simp only [h] at e
    omega
  · have hkn : k < n := by have := (List.getElem?_eq_some_iff.mp hk).1; rwa [sg_w_len] at this
    rw [sg_at hkn] at hk
    cases hk
    show A (sgA P k)
    rw [h]
    exact hA _ (by omega)
theorem lw_keep {P : sgP} {sh : Nat → sgE} {n : Nat} {σ : sgS} {D : va_G} {H H1 : Heap} (h : va_P D vwCl (sg_w P sh n σ) H) (hk : ∀ i, i < n → H1[sgA P i]? = H[sgA P i]?) : va_P D vwCl (sg_w P sh n σ) H1 := h.kept (fun k q hq => by
  have hkn : k < n := by have := (List.getElem?_eq_some_iff.mp hq).1; rwa [sg_w_len] at this
  rw [sg_at hkn] at hq
  cases hq
  exact hk k hkn)
theorem lw_ltw {P : sgP} {sh : Nat → sgE} {n : Nat} {σ : sgS} {D : va_G} {H : Heap} (h : va_P D vwCl (sg_w P sh n σ) H) (i : Nat) (hi : i < n) : sgA P i < H.size := (h i _ (sg_at hi)).lt
section LAW
variable {p : Program} {l : Launch} {e : Env} {s : State} {m : MethodId} {below : List Frame} {meth : Method} {c : Code} {H : Heap} {locs : List Loc} {cells slots : Nat} {Q : State → Prop}
variable {b L : Nat} {xs : Nat → Int32} {P Pm : sgP} {cL : ClassId} {σ τ : sgS} {f : Nat → Int64} {pc : Nat} {ls : Array Slot} {rest : List Value}
theorem lw_IC (X : lw_X p s m c b L xs P Pm cL) (I : lw_I s P Pm cL σ τ f H locs) : sg_I P shC 332 (lw_A s) s.heap σ H locs := ⟨I.1, lw_Dw X.2.2.2.2.2.2.2.1 (fun q h => h), I.2.2.2⟩
theorem lw_IM (X : lw_X p s m c b L xs P Pm cL) (I : lw_I s P Pm cL σ τ f H locs) : sg_I Pm shM 35 (lw_A s) s.heap τ H locs := ⟨by rw [X.2.2.2.2.2.2.1]; exact I.2.1, lw_Dw X.2.2.2.2.2.2.2.2 (fun q h => show s.heap.size ≤ q by omega), I.2.2.2⟩
theorem lw_lo_lt (I : lw_I s P Pm cL σ τ f H locs) : lw_o s < H.size := (I.2.2.1 0 _ rfl).lt
theorem lw_callX (X : lw_X p s m c b L xs P Pm cL) (I : lw_I s P Pm cL σ τ f H locs) (hcel : cells ≤ room_1.cells) (hslo : slots ≤ room_1.slots) {index : Nat} {y : MethodName} {bytes : ByteArray} {mL np : Nat} {ret : Option FieldType} (V : sg_V RL index RX11 y bytes mL ret np) {lev : Nat} (hlev : lev < 1400) {As stk : List Value} {q : Int32 × sgS}
    (hM : sg_Mi P shC 332 l y bytes mL ret lev (.ref (sgA P 0) :: As) σ q) (hls : ls.size = 7) (hn : As.length = np) (hst : stk = As.reverse ++ .ref (sgA P 0) :: rest) (hrest : (rest.map fun v => v.category).sum ≤ 8) (hdg : decode cL_law pc = .ok (.invokevirtual index, 3))
    (kk : ∀ (H : Heap) (locs : List Loc), lw_I s P Pm cL q.2 τ f H locs → W p l e room_1 s m #[Value.ref b] below meth c H locs cells slots Q (F0 m (pc + 3) ls (.int q.1 :: rest))) : W p l e room_1 s m #[Value.ref b] below meth c H locs cells slots Q (F0 m pc ls stk) := by
  have IC := lw_IC X I
  have hrun := sg_runV (l := l) (e := e) (below := below) (meth := meth) X.1 IC hcel hslo V hlev (by decide) shC_0 (by rfl) (hM H.size) hls hn hst hrest hdg
  have hsub := sg_A_sub IC.2.1 IC.2.2 X.1.2.2.1
  refine va_calli hrun IC.2.2 (fun q _ h => hsub q h) hsub (fun r u t H1 locs1 ht hvm hw hB hz hk hS => ?_)
  obtain ⟨rfl, rfl⟩ := hw
  rw [ht] at hB
  have hX := X.2.2.2.2.2.2.2
  have hno : ∀ z, z < H.size → s.heap.size + 332 ≤ z → H1[z]? = H[z]? := fun z hz h1 => hk z hz (by
    rintro (⟨i, hi, e9⟩ | e9)
    · rw [hX.1 i] at e9; omega
    · omega)
  exact kk H1 locs1 ⟨hB, lw_keep I.2.1 (fun i hi => hno _ (lw_ltw I.2.1 i hi) (by rw [hX.2 i]; omega)), I.2.2.1.kept (fun k z hz => by
    have h0 : k < 1 := (List.getElem?_eq_some_iff.mp hz).1
    rw [show k = 0 by omega] at hz
    cases hz
    exact hno _ (lw_lo_lt I) (by show _ ≤ s.heap.size + 367; omega)), hS⟩
theorem lw_callM (X : lw_X p s m c b L xs P Pm cL) (I : lw_I s P Pm cL σ τ f H locs) (hcel : cells ≤ room_1.cells) (hslo : slots ≤ room_1.slots) {index : Nat} {y : MethodName} {bytes : ByteArray} {mL np : Nat} {ret : Option FieldType} (V : sg_V RL index RX12 y bytes mL ret np) {lev : Nat} (hlev : lev < 1400) {As stk : List Value} {q : Int32 × sgS}
    (hM : sg_Mi Pm shM 35 l y bytes mL ret lev (.ref (sgA Pm 0) :: As) τ q) (hls : ls.size = 7) (hn : As.length = np) (hst : stk = As.reverse ++ .ref (sgA Pm 0) :: rest) (hrest : (rest.map fun v => v.category).sum ≤ 8) (hdg : decode cL_law pc = .ok (.invokevirtual index, 3))
    (kk : ∀ (H : Heap) (locs : List Loc), lw_I s P Pm cL σ q.2 f H locs → W p l e room_1 s m #[Value.ref b] below meth c H locs cells slots Q (F0 m (pc + 3) ls (.int q.1 :: rest))) : W p l e room_1 s m #[Value.ref b] below meth c H locs cells slots Q (F0 m pc ls stk) := by
  have IC := lw_IM X I
  have hrun := sg_runV (l := l) (e := e) (below := below) (meth := meth) X.2.1 IC hcel hslo V hlev (by decide) shM_0 (by rfl) (hM H.size) hls hn hst hrest hdg
  have hsub := sg_A_sub IC.2.1 IC.2.2 X.2.1.2.2.1
  refine va_calli hrun IC.2.2 (fun q _ h => hsub q h) hsub (fun r u t H1 locs1 ht hvm hw hB hz hk hS => ?_)
  obtain ⟨rfl, rfl⟩ := hw
  rw [ht] at hB
  have hX := X.2.2.2.2.2.2.2
  have hno : ∀ z, z < H.size → (z < s.heap.size + 332 ∨ s.heap.size + 367 ≤ z) → H1[z]? = H[z]? := fun z hz h1 => hk z hz (by
    rintro (⟨i, hi, e9⟩ | e9)
    · rw [hX.2 i] at e9; omega
    · omega)
  exact kk H1 locs1 ⟨lw_keep I.1 (fun i hi => hno _ (lw_ltw I.1 i hi) (by rw [hX.1 i]; omega)), by rw [X.2.2.2.2.2.2.1] at hB; exact hB, I.2.2.1.kept (fun k z hz => by
    have h0 : k < 1 := (List.getElem?_eq_some_iff.mp hz).1
    rw [show k = 0 by omega] at hz
    cases hz
    exact hno _ (lw_lo_lt I) (by show _ ∨ _ ≤ s.heap.size + 367; omega)), hS⟩
theorem lw_nI {n k : Nat} : nI n + nI k = nI (n + k) := (Int32.ofNat_add n k).symm
theorem lw_sld (X : lw_X p s m c b L xs P Pm cL) (I : lw_I s P Pm cL σ τ f H locs) {n : Nat} (hn : n < L) (hL : L ≤ 3072) (hdg : decode cL_law pc = .ok (.iaload, 1)) (kk : W p l e room_1 s m #[Value.ref b] below meth c H locs cells slots Q (F0 m (pc + 1) ls (.int (xs n) :: rest))) : W p l e room_1 s m #[Value.ref b] below meth c H locs cells slots Q (F0 m pc ls (.int (nI n) :: .ref b :: rest)) := by
  refine va_sld X.1.1.1 X.1.1.2.1 X.2.2.2.2.1 X.2.2.2.2.2.1 (fun h => by have := X.2.2.2.2.2.1; have h : s.heap.size ≤ b := h; omega) I.2.2.2 (vp_in_nI hn (by omega)) hdg ?_
  rw [nI_clamp (by omega)]
  exact kk
theorem lw_arg (X : lw_X p s m c b L xs P Pm cL) (I : lw_I s P Pm cL σ τ f H locs) {n k : Nat} {kz : Int} (hk : n + k < L) (hL : L ≤ 3072) (h0 : ls[0]? = some (.val (.ref b))) (h4 : ls[4]? = some (.val (.int (nI n)))) (hz : Int32.ofInt kz = nI k)
    (d0 : decode cL_law pc = .ok (.aload_n 0, 1)) (d1 : decode cL_law (pc + 1) = .ok (.iload 4, 2)) (d2 : decode cL_law (pc + 3) = .ok (.iconst kz, 1)) (d3 : decode cL_law (pc + 4) = .ok (.iadd, 1)) (d4 : decode cL_law (pc + 5) = .ok (.iaload, 1))
    (kk : W p l e room_1 s m #[Value.ref b] below meth c H locs cells slots Q (F0 m (pc + 6) ls (.int (xs (n + k)) :: rest))) : W p l e room_1 s m #[Value.ref b] below meth c H locs cells slots Q (F0 m pc ls rest) := by
  refine lv_aload_n X.1.1.1 X.1.1.2.1 d0 rfl h0 ?_
  refine lv_iload X.1.1.1 X.1.1.2.1 d1 h4 ?_
  refine lv_iconst X.1.1.1 X.1.1.2.1 d2 hz ?_
  refine lv_iadd X.1.1.1 X.1.1.2.1 d3 ?_
  rw [lw_nI]
  exact lw_sld X I hk hL d4 kk
/-- the law's locals -/
def lw_lv (s : State) (P Pm : sgP) (b : Nat) (i : Int32) : List (Nat × Value) := [(4, .int i), (0, .ref b), (1, .ref (sgA P 0)), (2, .ref (sgA Pm 0)), (3, .ref (lw_o s))]
/-- behind a case -/
def lw_Wt (Rel : sgS → sgS → Prop) (p : Program) (l : Launch) (e : Env) (s : State) (m : MethodId) (b : Nat) (below : List Frame) (meth : Method) (c : Code) (Q : State → Prop) (P Pm : sgP) (cL : ClassId) (n cells slots pc : Nat) : Prop :=
  ∀ (σ τ : sgS) (f : Nat → Int64) (H : Heap) (locs : List Loc) (ls : Array Slot), Rel σ τ → lw_I s P Pm cL σ τ f H locs → lv_has ls 7 (lw_lv s P Pm b (nI n)) → W p l e room_1 s m #[Value.ref b] below meth c H locs cells slots Q (F0 m pc ls [])
end LAW
theorem lw_bool {p : Program} {l : Launch} {e : Env} {s : State} {m : MethodId} {args : Array Value} {below : List Frame} {meth : Method} {c : Code} {H : Heap} {locs : List Loc} {cells slots : Nat} {Q : State → Prop} {pc : Nat} {ls : Array Slot} {rest : List Value} {R : Room} {cc : ByteArray} (hx : p.tables.exec = Jvm.exec) (hb : c.code = cc) {x : Int32} {o1 o2 : Int} (d0 : decode cc pc = .ok (.ifCond .eq o1, 3)) (d1 : decode cc (pc + 3) = .ok (.iconst 1, 1)) (d2 : decode cc (pc + 4) = .ok (.goto o2, 3)) (d3 : decode cc (pc + 7) = .ok (.iconst 0, 1)) (e1 : o1 = 7) (e2 : o2 = 4)
    (kk : W p l e R s m args below meth c H locs cells slots Q (F0 m (pc + 8) ls (.int (if x = 0 then 0 else 1) :: rest))) : W p l e R s m args below meth c H locs cells slots Q (F0 m pc ls (.int x :: rest)) := by
  subst e1 e2
  refine lv_if_eq (tgt := pc + 7) hx hb d0 (by omega) (fun h => ?_) (fun h => ?_)
  · rw [if_pos h] at kk
    exact lv_iconst hx hb d3 (by decide) kk
  · rw [if_neg h] at kk
    refine lv_iconst (v := 1) hx hb d1 (by decide) ?_
    exact lv_goto (tgt := pc + 8) hx hb d2 (by omega) kk
